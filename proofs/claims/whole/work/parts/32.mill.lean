/-! ConstantMill: where it lies, what it holds -/
def zmilA (A : zA) (b : Nat) : Prop := (A.1 b = some (.inl 7) ∧ A.2.1 b 0 = some (b + 1) ∧ A.2.1 b 1 = some (b + 2) ∧ A.2.1 b 2 = some (b + 3) ∧ A.2.1 b 3 = some (b + 4) ∧ A.2.1 b 4 = some (b + 13) ∧ A.2.1 b 5 = some (b + 22) ∧ A.2.1 b 6 = some (b + 31) ∧ A.2.1 b 7 = some (b + 33) ∧ A.2.1 b 8 = some (b + 35)) ∧ (A.1 (b + 1) = some (.inr (2, 6)) ∧ A.1 (b + 2) = some (.inr (3, 8)) ∧ A.1 (b + 3) = some (.inr (4, 4))) ∧ (zgrA A (b + 4) ∧ zencA A (b + 13) ∧ zspanA A (b + 22) ∧ zfigA A (b + 31) ∧ zfigA A (b + 33) ∧ zfigA A (b + 35)) ∧ (∀ i, i < 6 → A.2.1 (b + 1) i = some (b + 37 + 4 * i) ∧ zsumA A (b + 37 + 4 * i)) ∧ (∀ i, i < 8 → A.2.1 (b + 2) i = some (b + 61 + 9 * i) ∧ zspanA A (b + 61 + 9 * i)) ∧ (∀ i, i < 4 → A.2.1 (b + 3) i = some (b + 133 + 4 * i) ∧ zcoA A (b + 133 + 4 * i))
def zdrM (m : zM) (d : Nat) : Option zDr → Prop
  | none => m d 4 = 0
  | some x => m d 4 = 1 ∧ m d 5 = (x.1 : Int) ∧ m d 6 = (x.2.1 : Int) ∧ m d 7 = (x.2.2.1 : Int) ∧ zspn m d x.2.2.2
def zcoM (m : zM) (c : Nat) (x : Nat × (Nat → zPt)) : Prop := m c 3 = (x.1 : Int) ∧ ∀ i, i < x.1 → m (c + 1) i = ((x.2 i).1 : Int) ∧ m (c + 2) i = (x.2 i).2.1 ∧ m (c + 3) i = (x.2 i).2.2
def zabM (m : zM) (b f : Nat) : Option (Int × Int × Int × Int) → Prop
  | none => m b 9 = 0
  | some x => m b 9 = 1 ∧ m f 1 = x.1 ∧ m f 2 = x.2.1 ∧ m f 3 = x.2.2.1 ∧ m f 4 = x.2.2.2
def zrvM (m : zM) (f : Nat) (x : zRv) : Prop := zfigM m f x.2.1 x.2.2.1 x.2.2.2.2 ∧ m f 5 = x.1 ∧ m f 7 = x.2.2.2.1
def zCR (b : Nat) (m : zM) (σ : zSt) : Prop := (∀ s, s < 6 → zsumM m (b + 37 + 4 * s) (sC σ s) (sU σ s) (sV σ s)) ∧ (∀ d, d < 8 → (0 ≤ m (b + 61 + 9 * d) 5 ∧ m (b + 61 + 9 * d) 5 < 6) ∧ zdrM m (b + 61 + 9 * d) (sD σ d)) ∧ (∀ c, c < 4 → zcoM m (b + 133 + 4 * c) (sK σ c)) ∧ zrvM m (b + 31) (sR σ).2 ∧ zabM m b (b + 31) (sR σ).1
theorem zsumM.e {m m' : zM} {s : Nat} {c : Nat → Nat → Int} {u v : Int} (h : zsumM m s c u v) (hf : ∀ a j, s ≤ a → a < s + 4 → m' a j = m a j) : zsumM m' s c u v := by
  refine ⟨fun w hw => ?_, (hf _ _ (by omega) (by omega)).trans h.2.1, (hf _ _ (by omega) (by omega)).trans h.2.2⟩
  obtain ⟨h1, h2, h3⟩ := h.1 w hw
  exact ⟨(hf _ _ (by omega) (by omega)).trans h1, (hf _ _ (by omega) (by omega)).trans h2, (hf _ _ (by omega) (by omega)).trans h3⟩
theorem zbi.e {m m' : zM} {x N : Nat} {v : Int} (h : zbi m x N v) (h1 : ∀ j, m' x j = m x j) (h2 : ∀ j, m' (x + 1) j = m (x + 1) j) : zbi m' x N v := h.fr h1 h2
theorem zspn.e {m m' : zM} {d : Nat} {z : zq4} (h : zspn m d z) (hf : ∀ a j, d < a → a < d + 9 → m' a j = m a j) : zspn m' d z := ⟨h.1.e (fun j => hf _ _ (by omega) (by omega)) (fun j => hf _ _ (by omega) (by omega)), h.2.1.e (fun j => hf _ _ (by omega) (by omega)) (fun j => hf _ _ (by omega) (by omega)), h.2.2.1.e (fun j => hf _ _ (by omega) (by omega)) (fun j => hf _ _ (by omega) (by omega)), h.2.2.2.e (fun j => hf _ _ (by omega) (by omega)) (fun j => hf _ _ (by omega) (by omega))⟩
theorem zdrM.e {m m' : zM} {d : Nat} {x : Option zDr} (h : zdrM m d x) (hf : ∀ a j, d ≤ a → a < d + 9 → m' a j = m a j) : zdrM m' d x := by
  cases x with
  | none => exact (hf _ _ (by omega) (by omega)).trans h
  | some x =>
    obtain ⟨h1, h2, h3, h4, h5⟩ := h
    exact ⟨(hf _ _ (by omega) (by omega)).trans h1, (hf _ _ (by omega) (by omega)).trans h2, (hf _ _ (by omega) (by omega)).trans h3, (hf _ _ (by omega) (by omega)).trans h4, h5.e (fun a j g1 g2 => hf a j (by omega) g2)⟩
theorem zcoM.e {m m' : zM} {c : Nat} {x : Nat × (Nat → zPt)} (h : zcoM m c x) (hf : ∀ a j, c ≤ a → a < c + 4 → m' a j = m a j) : zcoM m' c x := by
  refine ⟨(hf _ _ (by omega) (by omega)).trans h.1, fun i hi => ?_⟩
  obtain ⟨h1, h2, h3⟩ := h.2 i hi
  exact ⟨(hf _ _ (by omega) (by omega)).trans h1, (hf _ _ (by omega) (by omega)).trans h2, (hf _ _ (by omega) (by omega)).trans h3⟩
theorem zrvM.e {m m' : zM} {f : Nat} {x : zRv} (h : zrvM m f x) (hf : ∀ a j, f ≤ a → a < f + 2 → m' a j = m a j) : zrvM m' f x := by
  obtain ⟨⟨h1, h2, h3⟩, h4, h5⟩ := h
  refine ⟨⟨(hf _ _ (by omega) (by omega)).trans h1, h2, fun j hj => ?_⟩, (hf _ _ (by omega) (by omega)).trans h4, (hf _ _ (by omega) (by omega)).trans h5⟩
  rw [hf _ _ (by omega) (by omega)]
  exact h3 j hj
theorem zabM.e {m m' : zM} {b f : Nat} {x : Option (Int × Int × Int × Int)} (h : zabM m b f x) (hb : ∀ j, m' b j = m b j) (hf : ∀ j, m' f j = m f j) : zabM m' b f x := by
  cases x with
  | none => exact (hb _).trans h
  | some x =>
    obtain ⟨h1, h2, h3, h4, h5⟩ := h
    exact ⟨(hb _).trans h1, (hf _).trans h2, (hf _).trans h3, (hf _).trans h4, (hf _).trans h5⟩
/-- what is not part of the state may be written on -/
theorem zCR.e {b : Nat} {m m' : zM} {σ : zSt} (h : zCR b m σ) (hf : ∀ a j, a = b ∨ (b + 31 ≤ a ∧ a < b + 33) ∨ (b + 37 ≤ a ∧ a < b + 149) → m' a j = m a j) : zCR b m' σ := by
  obtain ⟨h1, h2, h3, h4, h5⟩ := h
  refine ⟨fun s hs => (h1 s hs).e (fun a j g1 g2 => hf _ _ (by omega)), fun d hd => ⟨?_, (h2 d hd).2.e (fun a j g1 g2 => hf _ _ (by omega))⟩, fun c hc => (h3 c hc).e (fun a j g1 g2 => hf _ _ (by omega)), h4.e (fun a j g1 g2 => hf _ _ (by omega)), h5.e (fun j => hf _ _ (by omega)) (fun j => hf _ _ (by omega))⟩
  rw [hf _ _ (by omega)]
  exact (h2 d hd).1
theorem zCR.dr {b k : Nat} {m m' : zM} {σ : zSt} {x : Option zDr} (h : zCR b m σ) (hk : k < 8) (hx : zdrM m' (b + 61 + 9 * k) x) (h5 : 0 ≤ m' (b + 61 + 9 * k) 5 ∧ m' (b + 61 + 9 * k) 5 < 6) (hf : ∀ a j, a = b ∨ (b + 31 ≤ a ∧ a < b + 33) ∨ (b + 37 ≤ a ∧ a < b + 149) → (a < b + 61 + 9 * k ∨ b + 61 + 9 * k + 9 ≤ a) → m' a j = m a j) : zCR b m' (wD σ (zup (sD σ) k x)) := by
  obtain ⟨g1, g2, g3, g4, g5⟩ := h
  refine ⟨fun s hs => (g1 s hs).e (fun a j _ _ => hf _ _ (by omega) (by omega)), fun d hd => ?_, fun c hc => (g3 c hc).e (fun a j _ _ => hf _ _ (by omega) (by omega)), g4.e (fun a j _ _ => hf _ _ (by omega) (by omega)), g5.e (fun j => hf _ _ (by omega) (by omega)) (fun j => hf _ _ (by omega) (by omega))⟩
  by_cases hdk : d = k
  · subst hdk
    refine ⟨h5, ?_⟩
    show zdrM m' _ (zup (sD σ) d x d)
    rw [zup_same]
    exact hx
  · refine ⟨?_, ?_⟩
    · rw [hf _ _ (by omega) (by omega)]
      exact (g2 d hd).1
    · show zdrM m' _ (zup (sD σ) k x d)
      rw [zup_ne _ _ hdk]
      exact (g2 d hd).2.e (fun a j _ _ => hf _ _ (by omega) (by omega))
theorem zCR.D {b : Nat} {m : zM} {σ : zSt} {D1 D2 : Nat → Option zDr} (h : zCR b m (wD σ D1)) (he : ∀ d, d < 8 → D2 d = D1 d) : zCR b m (wD σ D2) := by
  obtain ⟨g1, g2, g3, g4, g5⟩ := h
  refine ⟨g1, fun d hd => ⟨(g2 d hd).1, ?_⟩, g3, g4, g5⟩
  show zdrM m _ (D2 d)
  rw [he d hd]
  exact (g2 d hd).2
theorem zCR.co {b k : Nat} {m m' : zM} {σ : zSt} {x : Nat × (Nat → zPt)} (h : zCR b m σ) (hk : k < 4) (hx : zcoM m' (b + 133 + 4 * k) x) (hf : ∀ a j, (a < b + 133 + 4 * k ∨ b + 133 + 4 * k + 4 ≤ a) → m' a j = m a j) : zCR b m' (wK σ (zup (sK σ) k x)) := by
  obtain ⟨g1, g2, g3, g4, g5⟩ := h
  refine ⟨fun s hs => (g1 s hs).e (fun a j _ _ => hf _ _ (by omega)), fun d hd => ⟨?_, (g2 d hd).2.e (fun a j _ _ => hf _ _ (by omega))⟩, fun c hc => ?_, g4.e (fun a j _ _ => hf _ _ (by omega)), g5.e (fun j => hf _ _ (by omega)) (fun j => hf _ _ (by omega))⟩
  · rw [hf _ _ (by omega)]
    exact (g2 d hd).1
  · show zcoM m' _ (zup (sK σ) k x c)
    by_cases hck : c = k
    · subst hck
      rw [zup_same]
      exact hx
    · rw [zup_ne _ _ hck]
      exact (g3 c hc).e (fun a j _ _ => hf _ _ (by omega))
theorem zCR.su {b k : Nat} {m m' : zM} {σ : zSt} {C : Nat → Nat → Nat → Int} {U V : Nat → Int} (h : zCR b m σ) (hk : k < 6) (hx : zsumM m' (b + 37 + 4 * k) (C k) (U k) (V k)) (hne : ∀ s, s ≠ k → C s = sC σ s ∧ U s = sU σ s ∧ V s = sV σ s) (hf : ∀ a j, (a < b + 37 + 4 * k ∨ b + 37 + 4 * k + 4 ≤ a) → m' a j = m a j) : zCR b m' (C, U, V, σ.2.2.2) := by
  obtain ⟨g1, g2, g3, g4, g5⟩ := h
  refine ⟨fun s hs => ?_, fun d hd => ⟨?_, (g2 d hd).2.e (fun a j _ _ => hf _ _ (by omega))⟩, fun c hc => (g3 c hc).e (fun a j _ _ => hf _ _ (by omega)), g4.e (fun a j _ _ => hf _ _ (by omega)), g5.e (fun j => hf _ _ (by omega)) (fun j => hf _ _ (by omega))⟩
  · show zsumM m' _ (C s) (U s) (V s)
    by_cases hsk : s = k
    · subst hsk
      exact hx
    · obtain ⟨e1, e2, e3⟩ := hne s hsk
      rw [e1, e2, e3]
      exact (g1 s hs).e (fun a j _ _ => hf _ _ (by omega))
  · rw [hf _ _ (by omega)]
    exact (g2 d hd).1
abbrev zi32 (x : Int) : Prop := -2147483648 ≤ x ∧ x < 2147483648
/-- the number i finds the place q + w i, if it is one of n -/
def zfind (n q w : Nat) (i : Int) (x : Option Nat) : Prop := (x = none ∧ ¬ zin i 0 ((n : Int) - 1)) ∨ ∃ k : Nat, k < n ∧ i = (k : Int) ∧ x = some (q + w * k)
theorem zfind.no {n q w : Nat} {i : Int} (h : zfind n q w i none) : ¬ zin i 0 ((n : Int) - 1) := by
  rcases h with h | ⟨k, _, _, h⟩
  · exact h.2
  · cases h
theorem zfind.yes {n q w a : Nat} {i : Int} (h : zfind n q w i (some a)) : ∃ k : Nat, k < n ∧ i = (k : Int) ∧ a = q + w * k := by
  rcases h with h | ⟨k, h1, h2, h⟩
  · cases h.1
  · exact ⟨k, h1, h2, Option.some.inj h⟩
theorem c_X7_sumAt (G : zG) {A : zA} {m : zM} {b : Nat} {i : Int} (hA : zmilA A b) (hi : zi32 i) : zMet G k_X7_sumAt [vr b, vi i] A m (zpr A (fun x m' => m = m' ∧ zfind 6 (b + 37) 4 i x)) := by
  obtain ⟨⟨hB, r0, r1, r2, r3, r4, r5, r6, r7, r8⟩, ⟨a1, a2, a3⟩, ⟨gG, gE, gP, gF, gT, gU⟩, hS, hD, hC⟩ := id hA
  unfold zi32 at hi
  refine zMet.of RX7 rfl (by decide +kernel) (Nat.le_of_ble_eq_true rfl) [some (vr b), some (vi i)] rfl (fun E hG X hQ hNm => ?_)
  subst hG
  refine z_iload_n X dX7_sumAt_0 rfl ?_
  refine z_if_lt X dX7_sumAt_1 13 (by decide) (by omega) (fun h1 => ?_) (fun h1 => ?_)
  · refine z_null X dX7_sumAt_13 ?_
    refine z_goto X dX7_sumAt_14 23 (by decide) ?_
    refine z_areturn (st := []) X rfl hQ dX7_sumAt_23 (Or.inl rfl) ⟨rfl, none, rfl, ?_⟩
    exact ⟨rfl, Or.inl ⟨rfl, fun h => by omega⟩⟩
  · refine z_iload_n X dX7_sumAt_4 rfl ?_
    refine z_aload_n X dX7_sumAt_5 rfl ?_
    refine z_getR X dX7_sumAt_6 f_X7_11 rfl (by first | assumption | exact zbigA.o (by assumption)) (by assumption) ?_
    refine z_alen X dX7_sumAt_9 (by assumption) ?_
    refine z_icmp_lt X dX7_sumAt_10 17 (by decide) (by omega) (by omega) (fun h10 => ?_) (fun h10 => ?_)
    · refine z_aload_n X dX7_sumAt_17 rfl ?_
      refine z_getR X dX7_sumAt_18 f_X7_11 rfl (by first | assumption | exact zbigA.o (by assumption)) (by assumption) ?_
      refine z_iload_n X dX7_sumAt_21 rfl ?_
      have hs := (hS i.toNat (by omega)).1
      refine z_aald X (i.toNat) dX7_sumAt_22 (by omega) (t := 2) (by decide) (by assumption) (by omega) (by omega) (by assumption) ?_
      refine z_areturn (st := []) X rfl hQ dX7_sumAt_23 (Or.inr ⟨_, rfl⟩) ⟨rfl, some _, rfl, ?_⟩
      exact ⟨rfl, Or.inr ⟨i.toNat, by omega, by omega, rfl⟩⟩
    · refine z_null X dX7_sumAt_13 ?_
      refine z_goto X dX7_sumAt_14 23 (by decide) ?_
      refine z_areturn (st := []) X rfl hQ dX7_sumAt_23 (Or.inl rfl) ⟨rfl, none, rfl, ?_⟩
      exact ⟨rfl, Or.inl ⟨rfl, fun h => by omega⟩⟩
theorem c_X7_drawerAt (G : zG) {A : zA} {m : zM} {b : Nat} {i : Int} (hA : zmilA A b) (hi : zi32 i) : zMet G k_X7_drawerAt [vr b, vi i] A m (zpr A (fun x m' => m = m' ∧ zfind 8 (b + 61) 9 i x)) := by
  obtain ⟨⟨hB, r0, r1, r2, r3, r4, r5, r6, r7, r8⟩, ⟨a1, a2, a3⟩, ⟨gG, gE, gP, gF, gT, gU⟩, hS, hD, hC⟩ := id hA
  unfold zi32 at hi
  refine zMet.of RX7 rfl (by decide +kernel) (Nat.le_of_ble_eq_true rfl) [some (vr b), some (vi i)] rfl (fun E hG X hQ hNm => ?_)
  subst hG
  refine z_iload_n X dX7_drawerAt_0 rfl ?_
  refine z_if_lt X dX7_drawerAt_1 13 (by decide) (by omega) (fun h1 => ?_) (fun h1 => ?_)
  · refine z_null X dX7_drawerAt_13 ?_
    refine z_goto X dX7_drawerAt_14 23 (by decide) ?_
    refine z_areturn (st := []) X rfl hQ dX7_drawerAt_23 (Or.inl rfl) ⟨rfl, none, rfl, ?_⟩
    exact ⟨rfl, Or.inl ⟨rfl, fun h => by omega⟩⟩
  · refine z_iload_n X dX7_drawerAt_4 rfl ?_
    refine z_aload_n X dX7_drawerAt_5 rfl ?_
    refine z_getR X dX7_drawerAt_6 f_X7_17 rfl (by first | assumption | exact zbigA.o (by assumption)) (by assumption) ?_
    refine z_alen X dX7_drawerAt_9 (by assumption) ?_
    refine z_icmp_lt X dX7_drawerAt_10 17 (by decide) (by omega) (by omega) (fun h10 => ?_) (fun h10 => ?_)
    · refine z_aload_n X dX7_drawerAt_17 rfl ?_
      refine z_getR X dX7_drawerAt_18 f_X7_17 rfl (by first | assumption | exact zbigA.o (by assumption)) (by assumption) ?_
      refine z_iload_n X dX7_drawerAt_21 rfl ?_
      have hs := (hD i.toNat (by omega)).1
      refine z_aald X (i.toNat) dX7_drawerAt_22 (by omega) (t := 3) (by decide) (by assumption) (by omega) (by omega) (by assumption) ?_
      refine z_areturn (st := []) X rfl hQ dX7_drawerAt_23 (Or.inr ⟨_, rfl⟩) ⟨rfl, some _, rfl, ?_⟩
      exact ⟨rfl, Or.inr ⟨i.toNat, by omega, by omega, rfl⟩⟩
    · refine z_null X dX7_drawerAt_13 ?_
      refine z_goto X dX7_drawerAt_14 23 (by decide) ?_
      refine z_areturn (st := []) X rfl hQ dX7_drawerAt_23 (Or.inl rfl) ⟨rfl, none, rfl, ?_⟩
      exact ⟨rfl, Or.inl ⟨rfl, fun h => by omega⟩⟩
theorem c_X7_constantAt (G : zG) {A : zA} {m : zM} {b : Nat} {i : Int} (hA : zmilA A b) (hi : zi32 i) : zMet G k_X7_constantAt [vr b, vi i] A m (zpr A (fun x m' => m = m' ∧ zfind 4 (b + 133) 4 i x)) := by
  obtain ⟨⟨hB, r0, r1, r2, r3, r4, r5, r6, r7, r8⟩, ⟨a1, a2, a3⟩, ⟨gG, gE, gP, gF, gT, gU⟩, hS, hD, hC⟩ := id hA
  unfold zi32 at hi
  refine zMet.of RX7 rfl (by decide +kernel) (Nat.le_of_ble_eq_true rfl) [some (vr b), some (vi i)] rfl (fun E hG X hQ hNm => ?_)
  subst hG
  refine z_iload_n X dX7_constantAt_0 rfl ?_
  refine z_if_lt X dX7_constantAt_1 13 (by decide) (by omega) (fun h1 => ?_) (fun h1 => ?_)
  · refine z_null X dX7_constantAt_13 ?_
    refine z_goto X dX7_constantAt_14 23 (by decide) ?_
    refine z_areturn (st := []) X rfl hQ dX7_constantAt_23 (Or.inl rfl) ⟨rfl, none, rfl, ?_⟩
    exact ⟨rfl, Or.inl ⟨rfl, fun h => by omega⟩⟩
  · refine z_iload_n X dX7_constantAt_4 rfl ?_
    refine z_aload_n X dX7_constantAt_5 rfl ?_
    refine z_getR X dX7_constantAt_6 f_X7_23 rfl (by first | assumption | exact zbigA.o (by assumption)) (by assumption) ?_
    refine z_alen X dX7_constantAt_9 (by assumption) ?_
    refine z_icmp_lt X dX7_constantAt_10 17 (by decide) (by omega) (by omega) (fun h10 => ?_) (fun h10 => ?_)
    · refine z_aload_n X dX7_constantAt_17 rfl ?_
      refine z_getR X dX7_constantAt_18 f_X7_23 rfl (by first | assumption | exact zbigA.o (by assumption)) (by assumption) ?_
      refine z_iload_n X dX7_constantAt_21 rfl ?_
      have hs := (hC i.toNat (by omega)).1
      refine z_aald X (i.toNat) dX7_constantAt_22 (by omega) (t := 4) (by decide) (by assumption) (by omega) (by omega) (by assumption) ?_
      refine z_areturn (st := []) X rfl hQ dX7_constantAt_23 (Or.inr ⟨_, rfl⟩) ⟨rfl, some _, rfl, ?_⟩
      exact ⟨rfl, Or.inr ⟨i.toNat, by omega, by omega, rfl⟩⟩
    · refine z_null X dX7_constantAt_13 ?_
      refine z_goto X dX7_constantAt_14 23 (by decide) ?_
      refine z_areturn (st := []) X rfl hQ dX7_constantAt_23 (Or.inl rfl) ⟨rfl, none, rfl, ?_⟩
      exact ⟨rfl, Or.inl ⟨rfl, fun h => by omega⟩⟩
theorem c_X7_isCoefficient (G : zG) {A : zA} {m : zM} {i : Int} (hi : zi32 i) : zMet G k_X7_isCoefficient [vi i] A m (zpi A (fun r m' => m = m' ∧ ((r = 1 ∧ zin i (-999) 999) ∨ (r = 0 ∧ ¬ zin i (-999) 999)))) := by
  unfold zi32 at hi
  refine zMet.of RX7 rfl (by decide +kernel) (Nat.le_of_ble_eq_true rfl) [some (vi i)] rfl (fun E hG X hQ hNm => ?_)
  subst hG
  refine z_iload_n X dX7_isCoefficient_0 rfl ?_
  refine z_sipush X dX7_isCoefficient_1 (by decide) ?_
  refine z_icmp_lt X dX7_isCoefficient_4 18 (by decide) (by omega) (by omega) (fun h4 => ?_) (fun h4 => ?_)
  · refine z_iconst X dX7_isCoefficient_18 ?_
    refine z_zreturn (st := []) X rfl hQ dX7_isCoefficient_19 (by first | exact Or.inl rfl | exact Or.inr rfl | omega) ⟨rfl, _, rfl, ?_⟩
    exact ⟨rfl, Or.inr ⟨rfl, fun h => by omega⟩⟩
  · refine z_iload_n X dX7_isCoefficient_7 rfl ?_
    refine z_sipush X dX7_isCoefficient_8 (by decide) ?_
    refine z_icmp_gt X dX7_isCoefficient_11 18 (by decide) (by omega) (by omega) (fun h11 => ?_) (fun h11 => ?_)
    · refine z_iconst X dX7_isCoefficient_18 ?_
      refine z_zreturn (st := []) X rfl hQ dX7_isCoefficient_19 (by first | exact Or.inl rfl | exact Or.inr rfl | omega) ⟨rfl, _, rfl, ?_⟩
      exact ⟨rfl, Or.inr ⟨rfl, fun h => by omega⟩⟩
    · refine z_iconst X dX7_isCoefficient_14 ?_
      refine z_goto X dX7_isCoefficient_15 19 (by decide) ?_
      refine z_zreturn (st := []) X rfl hQ dX7_isCoefficient_19 (by first | exact Or.inl rfl | exact Or.inr rfl | omega) ⟨rfl, _, rfl, ?_⟩
      exact ⟨rfl, Or.inl ⟨rfl, by omega, by omega⟩⟩
theorem c_X7_areFigures (G : zG) {A : zA} {m : zM} {i n : Int} (hi : zi32 i) (hn : zi32 n) : zMet G k_X7_areFigures [vi i, vi n] A m (zpi A (fun r m' => m = m' ∧ ((r = 1 ∧ zin i 2 36 ∧ zin n 0 100) ∨ (r = 0 ∧ ¬ (zin i 2 36 ∧ zin n 0 100))))) := by
  unfold zi32 at hi hn
  refine zMet.of RX7 rfl (by decide +kernel) (Nat.le_of_ble_eq_true rfl) [some (vi i), some (vi n)] rfl (fun E hG X hQ hNm => ?_)
  subst hG
  refine z_iload_n X dX7_areFigures_0 rfl ?_
  refine z_iconst X dX7_areFigures_1 ?_
  refine z_icmp_lt X dX7_areFigures_2 25 (by decide) (by omega) (by omega) (fun h2 => ?_) (fun h2 => ?_)
  · refine z_iconst X dX7_areFigures_25 ?_
    refine z_zreturn (st := []) X rfl hQ dX7_areFigures_26 (by first | exact Or.inl rfl | exact Or.inr rfl | omega) ⟨rfl, _, rfl, ?_⟩
    first | exact ⟨rfl, Or.inr ⟨rfl, fun h => by omega⟩⟩ | exact ⟨rfl, Or.inl ⟨rfl, by omega, by omega⟩⟩
  · refine z_iload_n X dX7_areFigures_5 rfl ?_
    refine z_bipush X dX7_areFigures_6 (by decide) ?_
    refine z_icmp_gt X dX7_areFigures_8 25 (by decide) (by omega) (by omega) (fun h8 => ?_) (fun h8 => ?_)
    · refine z_iconst X dX7_areFigures_25 ?_
      refine z_zreturn (st := []) X rfl hQ dX7_areFigures_26 (by first | exact Or.inl rfl | exact Or.inr rfl | omega) ⟨rfl, _, rfl, ?_⟩
      first | exact ⟨rfl, Or.inr ⟨rfl, fun h => by omega⟩⟩ | exact ⟨rfl, Or.inl ⟨rfl, by omega, by omega⟩⟩
    · refine z_iload_n X dX7_areFigures_11 rfl ?_
      refine z_if_lt X dX7_areFigures_12 25 (by decide) (by omega) (fun h12 => ?_) (fun h12 => ?_)
      · refine z_iconst X dX7_areFigures_25 ?_
        refine z_zreturn (st := []) X rfl hQ dX7_areFigures_26 (by first | exact Or.inl rfl | exact Or.inr rfl | omega) ⟨rfl, _, rfl, ?_⟩
        first | exact ⟨rfl, Or.inr ⟨rfl, fun h => by omega⟩⟩ | exact ⟨rfl, Or.inl ⟨rfl, by omega, by omega⟩⟩
      · refine z_iload_n X dX7_areFigures_15 rfl ?_
        refine z_bipush X dX7_areFigures_16 (by decide) ?_
        refine z_icmp_gt X dX7_areFigures_18 25 (by decide) (by omega) (by omega) (fun h18 => ?_) (fun h18 => ?_)
        · refine z_iconst X dX7_areFigures_25 ?_
          refine z_zreturn (st := []) X rfl hQ dX7_areFigures_26 (by first | exact Or.inl rfl | exact Or.inr rfl | omega) ⟨rfl, _, rfl, ?_⟩
          first | exact ⟨rfl, Or.inr ⟨rfl, fun h => by omega⟩⟩ | exact ⟨rfl, Or.inl ⟨rfl, by omega, by omega⟩⟩
        · refine z_iconst X dX7_areFigures_21 ?_
          refine z_goto X dX7_areFigures_22 26 (by decide) ?_
          refine z_zreturn (st := []) X rfl hQ dX7_areFigures_26 (by first | exact Or.inl rfl | exact Or.inr rfl | omega) ⟨rfl, _, rfl, ?_⟩
          first | exact ⟨rfl, Or.inr ⟨rfl, fun h => by omega⟩⟩ | exact ⟨rfl, Or.inl ⟨rfl, by omega, by omega⟩⟩
theorem c_X7_areTerms (G : zG) {A : zA} {m : zM} {i : Int} (hi : zi32 i) : zMet G k_X7_areTerms [vi i] A m (zpi A (fun r m' => m = m' ∧ ((r = 1 ∧ zin i 1 100) ∨ (r = 0 ∧ ¬ zin i 1 100)))) := by
  unfold zi32 at hi
  refine zMet.of RX7 rfl (by decide +kernel) (Nat.le_of_ble_eq_true rfl) [some (vi i)] rfl (fun E hG X hQ hNm => ?_)
  subst hG
  refine z_iload_n X dX7_areTerms_0 rfl ?_
  refine z_iconst X dX7_areTerms_1 ?_
  refine z_icmp_lt X dX7_areTerms_2 15 (by decide) (by omega) (by omega) (fun h2 => ?_) (fun h2 => ?_)
  · refine z_iconst X dX7_areTerms_15 ?_
    refine z_zreturn (st := []) X rfl hQ dX7_areTerms_16 (by first | exact Or.inl rfl | exact Or.inr rfl | omega) ⟨rfl, _, rfl, ?_⟩
    first | exact ⟨rfl, Or.inr ⟨rfl, fun h => by omega⟩⟩ | exact ⟨rfl, Or.inl ⟨rfl, by omega, by omega⟩⟩
  · refine z_iload_n X dX7_areTerms_5 rfl ?_
    refine z_bipush X dX7_areTerms_6 (by decide) ?_
    refine z_icmp_gt X dX7_areTerms_8 15 (by decide) (by omega) (by omega) (fun h8 => ?_) (fun h8 => ?_)
    · refine z_iconst X dX7_areTerms_15 ?_
      refine z_zreturn (st := []) X rfl hQ dX7_areTerms_16 (by first | exact Or.inl rfl | exact Or.inr rfl | omega) ⟨rfl, _, rfl, ?_⟩
      first | exact ⟨rfl, Or.inr ⟨rfl, fun h => by omega⟩⟩ | exact ⟨rfl, Or.inl ⟨rfl, by omega, by omega⟩⟩
    · refine z_iconst X dX7_areTerms_11 ?_
      refine z_goto X dX7_areTerms_12 16 (by decide) ?_
      refine z_zreturn (st := []) X rfl hQ dX7_areTerms_16 (by first | exact Or.inl rfl | exact Or.inr rfl | omega) ⟨rfl, _, rfl, ?_⟩
      first | exact ⟨rfl, Or.inr ⟨rfl, fun h => by omega⟩⟩ | exact ⟨rfl, Or.inl ⟨rfl, by omega, by omega⟩⟩

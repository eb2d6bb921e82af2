/-! The model: what it holds; rule, bound, value, at -/
def zmdr (m : zM) (q d : Nat) : Option zDr → Prop
  | none => m (q + 7) d = -6
  | some x => m (q + 7) d = (x.1 : Int) ∧ m (q + 8) d = (x.2.1 : Int) ∧ m (q + 9) d = (x.2.2.1 : Int) ∧ zsl m q (4 * d) x.2.2.2.1 ∧ zsl m q (4 * d + 1) x.2.2.2.2.1 ∧ zsl m q (4 * d + 2) x.2.2.2.2.2.1 ∧ zsl m q (4 * d + 3) x.2.2.2.2.2.2
def zmco (m : zM) (q c : Nat) (x : Nat × (Nat → zPt)) : Prop := m (q + 10) c = (x.1 : Int) ∧ ∀ i, i < x.1 → m (q + 11) (4 * c + i) = ((x.2 i).1 : Int) ∧ m (q + 12) (4 * c + i) = (x.2 i).2.1 ∧ m (q + 13) (4 * c + i) = (x.2 i).2.2
def zmab (m : zM) (q : Nat) (rv : zRv) : Option (Int × Int × Int × Int) → Prop
  | none => m q 17 = -6
  | some x => m q 17 = x.1 ∧ m q 18 = x.2.1 ∧ m q 19 = x.2.2.1 ∧ m q 20 = x.2.2.2 ∧ m q 23 = rv.2.1 ∧ ∀ j, j < rv.2.2.1 → m (q + 15) j = rv.2.2.2.2 j
def zmsu (m : zM) (q s : Nat) (c : Nat → Nat → Int) (u v : Int) : Prop := (∀ w j, w < 4 → j < 3 → m (q + 4) (12 * s + 3 * w + j) = c w j) ∧ m (q + 5) s = u ∧ m (q + 6) s = v
def zMR (q : Nat) (m : zM) (σ : zSt) : Prop := (∀ s, s < 6 → zmsu m q s (sC σ s) (sU σ s) (sV σ s)) ∧ (∀ d, d < 8 → zmdr m q d (sD σ d)) ∧ (∀ c, c < 4 → zmco m q c (sK σ c)) ∧ (m q 21 = (sR σ).2.1 ∧ m q 22 = (sR σ).2.2.2.2.1) ∧ zmab m q (sR σ).2 (sR σ).1
def zmm (q : Nat) (m m' : zM) : Prop := ∀ a j, (a < q ∨ q + 17 ≤ a) → m' a j = m a j
theorem zmm.r {q : Nat} {m : zM} : zmm q m m := fun _ _ _ => rfl
theorem zmm.t {q : Nat} {m m1 m2 : zM} (h : zmm q m m1) (g : zmm q m1 m2) : zmm q m m2 := fun a j ha => (g a j ha).trans (h a j ha)
theorem zmm.w {q a k : Nat} {m m1 : zM} {x : Int} (h : zmm q m m1) (ha : q ≤ a ∧ a < q + 17) : zmm q m (zms m1 a k x) := fun c j hc => (zms_nq _ _ _ _ _ (by omega)).trans (h c j hc)
theorem zsP.mm {q : Nat} {S : Nat → Prop} {m m' : zM} (h : zsP q S m m') : zmm q m m' := fun a j ha => h.1 a j (by omega)
theorem zmsu.e {m m' : zM} {q s : Nat} {c : Nat → Nat → Int} {u v : Int} (h : zmsu m q s c u v) (hf : ∀ a j, q + 4 ≤ a → a < q + 7 → m' a j = m a j) : zmsu m' q s c u v := ⟨fun w j h1 h2 => (hf _ _ (by omega) (by omega)).trans (h.1 w j h1 h2), (hf _ _ (by omega) (by omega)).trans h.2.1, (hf _ _ (by omega) (by omega)).trans h.2.2⟩
theorem zmdr.e {m m' : zM} {q d : Nat} {x : Option zDr} (h : zmdr m q d x) (hf : m' (q + 7) d = m (q + 7) d ∧ m' (q + 8) d = m (q + 8) d ∧ m' (q + 9) d = m (q + 9) d) (hq : ∀ k, k < 4 → zSq q (4 * d + k) m m') : zmdr m' q d x := by
  cases x with
  | none => exact hf.1.trans h
  | some x =>
    obtain ⟨h1, h2, h3, h4, h5, h6, h7⟩ := h
    exact ⟨hf.1.trans h1, hf.2.1.trans h2, hf.2.2.trans h3, h4.q (hq 0 (by omega)), h5.q (hq 1 (by omega)), h6.q (hq 2 (by omega)), h7.q (hq 3 (by omega))⟩
theorem zmco.e {m m' : zM} {q c : Nat} {x : Nat × (Nat → zPt)} (h : zmco m q c x) (hf : ∀ a j, q + 10 ≤ a → a < q + 14 → m' a j = m a j) : zmco m' q c x := by
  refine ⟨(hf _ _ (by omega) (by omega)).trans h.1, fun i hi => ?_⟩
  obtain ⟨h1, h2, h3⟩ := h.2 i hi
  exact ⟨(hf _ _ (by omega) (by omega)).trans h1, (hf _ _ (by omega) (by omega)).trans h2, (hf _ _ (by omega) (by omega)).trans h3⟩
theorem zmab.e {m m' : zM} {q : Nat} {rv : zRv} {x : Option (Int × Int × Int × Int)} (h : zmab m q rv x) (hf : ∀ j, 17 ≤ j → m' q j = m q j) (hr : ∀ j, m' (q + 15) j = m (q + 15) j) : zmab m' q rv x := by
  cases x with
  | none => exact (hf _ (by omega)).trans h
  | some x =>
    obtain ⟨h1, h2, h3, h4, h5, h6⟩ := h
    exact ⟨(hf _ (by omega)).trans h1, (hf _ (by omega)).trans h2, (hf _ (by omega)).trans h3, (hf _ (by omega)).trans h4, (hf _ (by omega)).trans h5, fun j hj => (hr j).trans (h6 j hj)⟩
/-- what is not part of the state may be written on -/
theorem zMR.e {q : Nat} {m m' : zM} {σ : zSt} (h : zMR q m σ) (hf : ∀ a j, ((q + 4 ≤ a ∧ a < q + 14) ∨ a = q + 15) → m' a j = m a j) (h0 : ∀ j, 17 ≤ j → m' q j = m q j) (hq : ∀ x, x < 32 → zSq q x m m') : zMR q m' σ := by
  obtain ⟨h1, h2, h3, h4, h5⟩ := h
  exact ⟨fun s hs => (h1 s hs).e (fun a j _ _ => hf _ _ (by omega)), fun d hd => (h2 d hd).e ⟨hf _ _ (by omega), hf _ _ (by omega), hf _ _ (by omega)⟩ (fun k hk => hq _ (by omega)), fun c hc => (h3 c hc).e (fun a j _ _ => hf _ _ (by omega)), ⟨(h0 _ (by omega)).trans h4.1, (h0 _ (by omega)).trans h4.2⟩, h5.e h0 (fun j => hf _ _ (by omega))⟩
theorem zMR.dr {q k : Nat} {m m' : zM} {σ : zSt} {x : Option zDr} (h : zMR q m σ) (hk : k < 8) (hx : zmdr m' q k x) (hf : ∀ a j, ((q + 4 ≤ a ∧ a < q + 14) ∨ a = q + 15) → ((q + 7 ≤ a ∧ a < q + 10) → j ≠ k) → m' a j = m a j) (h0 : ∀ j, 17 ≤ j → m' q j = m q j) (hq : ∀ y, y < 32 → (y < 4 * k ∨ 4 * k + 4 ≤ y) → zSq q y m m') : zMR q m' (wD σ (zup (sD σ) k x)) := by
  obtain ⟨h1, h2, h3, h4, h5⟩ := h
  refine ⟨fun s hs => (h1 s hs).e (fun a j _ _ => hf _ _ (by omega) (by omega)), fun d hd => ?_, fun c hc => (h3 c hc).e (fun a j _ _ => hf _ _ (by omega) (by omega)), ⟨(h0 _ (by omega)).trans h4.1, (h0 _ (by omega)).trans h4.2⟩, h5.e h0 (fun j => hf _ _ (by omega) (by omega))⟩
  show zmdr m' q d (zup (sD σ) k x d)
  by_cases hdk : d = k
  · subst hdk
    rw [zup_same]
    exact hx
  · rw [zup_ne _ _ hdk]
    exact (h2 d hd).e ⟨hf _ _ (by omega) (by omega), hf _ _ (by omega) (by omega), hf _ _ (by omega) (by omega)⟩ (fun k' hk' => hq _ (by omega) (by omega))
theorem zMR.D {q : Nat} {m : zM} {σ : zSt} {D1 D2 : Nat → Option zDr} (h : zMR q m (wD σ D1)) (he : ∀ d, d < 8 → D2 d = D1 d) : zMR q m (wD σ D2) := by
  obtain ⟨g1, g2, g3, g4, g5⟩ := h
  refine ⟨g1, fun d hd => ?_, g3, g4, g5⟩
  show zmdr m q d (D2 d)
  rw [he d hd]
  exact g2 d hd
theorem zSq_nq {q a k x : Nat} {v : Int} {m : zM} (h : a < q + 1 ∨ q + 3 < a) : zSq q x m (zms m a k v) := ⟨zms_nq _ _ _ _ _ (by omega), zms_nq _ _ _ _ _ (by omega), fun _ _ => zms_nq _ _ _ _ _ (by omega)⟩
theorem zMR.su {q k : Nat} {m m' : zM} {σ : zSt} {C : Nat → Nat → Nat → Int} {U V : Nat → Int} (h : zMR q m σ) (hk : k < 6) (hx : zmsu m' q k (C k) (U k) (V k)) (hne : ∀ s, s ≠ k → C s = sC σ s ∧ U s = sU σ s ∧ V s = sV σ s) (hf : ∀ a j, ¬ (a = q + 4 ∧ 12 * k ≤ j ∧ j < 12 * k + 12) → ¬ (a = q + 5 ∧ j = k) → ¬ (a = q + 6 ∧ j = k) → m' a j = m a j) : zMR q m' (C, U, V, σ.2.2.2) := by
  obtain ⟨h1, h2, h3, h4, h5⟩ := h
  have hs : ∀ x, zSq q x m m' := fun x => ⟨hf _ _ (by omega) (by omega) (by omega), hf _ _ (by omega) (by omega) (by omega), fun _ _ => hf _ _ (by omega) (by omega) (by omega)⟩
  refine ⟨fun s hs => ?_, fun d hd => (h2 d hd).e ⟨hf _ _ (by omega) (by omega) (by omega), hf _ _ (by omega) (by omega) (by omega), hf _ _ (by omega) (by omega) (by omega)⟩ (fun _ _ => hs _), fun c hc => (h3 c hc).e (fun a j _ _ => hf _ _ (by omega) (by omega) (by omega)), ⟨(hf _ _ (by omega) (by omega) (by omega)).trans h4.1, (hf _ _ (by omega) (by omega) (by omega)).trans h4.2⟩, h5.e (fun j _ => hf _ _ (by omega) (by omega) (by omega)) (fun j => hf _ _ (by omega) (by omega) (by omega))⟩
  show zmsu m' q s (C s) (U s) (V s)
  by_cases hsk : s = k
  · subst hsk
    exact hx
  · obtain ⟨e1, e2, e3⟩ := hne s hsk
    rw [e1, e2, e3]
    obtain ⟨w1, w2, w3⟩ := h1 s hs
    exact ⟨fun w j hw hj => (hf _ _ (by omega) (by omega) (by omega)).trans (w1 w j hw hj), (hf _ _ (by omega) (by omega) (by omega)).trans w2, (hf _ _ (by omega) (by omega) (by omega)).trans w3⟩
theorem c_X8_isSum (G : zG) {A : zA} {m : zM} {i : Int} (hi : zi32 i) : zMet G k_X8_isSum [vi i] A m (zpi A (fun r m' => m = m' ∧ ((r = 1 ∧ zin i 0 5) ∨ (r = 0 ∧ ¬ zin i 0 5)))) := by
  unfold zi32 at hi
  refine zMet.of RX8 rfl (by decide +kernel) (Nat.le_of_ble_eq_true rfl) [some (vi i)] rfl (fun E hG X hQ hNm => ?_)
  subst hG
  refine z_iload_n X dX8_isSum_0 rfl ?_
  refine z_i2l X dX8_isSum_1 (by omega) ?_
  refine z_lconst X dX8_isSum_2 0 rfl ?_
  refine z_ldc2 X dX8_isSum_3 q_X8_84 (5) (by decide) ?_
  refine z_callSi X (As := [_, _, _]) dX8_isSum_6 m_X8_in s_X8_in l_X8_86 (c_X8_in (zg E) (by omega) (by omega) (by omega)) rfl rfl (Nat.le_of_ble_eq_true rfl) ⟨Nat.le_of_ble_eq_true rfl, Nat.le_of_ble_eq_true rfl⟩ ⟨Nat.le_of_ble_eq_true rfl, Nat.le_of_ble_eq_true rfl⟩ ⟨rfl, rfl⟩ (fun r m1 hm => ?_)
  refine z_zreturn (st := []) X rfl hQ dX8_isSum_9 (by first | exact Or.inl rfl | exact Or.inr rfl | omega) ⟨rfl, _, rfl, ?_⟩
  exact hm
theorem c_X8_isDrawer (G : zG) {A : zA} {m : zM} {i : Int} (hi : zi32 i) : zMet G k_X8_isDrawer [vi i] A m (zpi A (fun r m' => m = m' ∧ ((r = 1 ∧ zin i 0 7) ∨ (r = 0 ∧ ¬ zin i 0 7)))) := by
  unfold zi32 at hi
  refine zMet.of RX8 rfl (by decide +kernel) (Nat.le_of_ble_eq_true rfl) [some (vi i)] rfl (fun E hG X hQ hNm => ?_)
  subst hG
  refine z_iload_n X dX8_isDrawer_0 rfl ?_
  refine z_i2l X dX8_isDrawer_1 (by omega) ?_
  refine z_lconst X dX8_isDrawer_2 0 rfl ?_
  refine z_ldc2 X dX8_isDrawer_3 q_X8_148 (7) (by decide) ?_
  refine z_callSi X (As := [_, _, _]) dX8_isDrawer_6 m_X8_in s_X8_in l_X8_86 (c_X8_in (zg E) (by omega) (by omega) (by omega)) rfl rfl (Nat.le_of_ble_eq_true rfl) ⟨Nat.le_of_ble_eq_true rfl, Nat.le_of_ble_eq_true rfl⟩ ⟨Nat.le_of_ble_eq_true rfl, Nat.le_of_ble_eq_true rfl⟩ ⟨rfl, rfl⟩ (fun r m1 hm => ?_)
  refine z_zreturn (st := []) X rfl hQ dX8_isDrawer_9 (by first | exact Or.inl rfl | exact Or.inr rfl | omega) ⟨rfl, _, rfl, ?_⟩
  exact hm
theorem c_X8_isConstant (G : zG) {A : zA} {m : zM} {i : Int} (hi : zi32 i) : zMet G k_X8_isConstant [vi i] A m (zpi A (fun r m' => m = m' ∧ ((r = 1 ∧ zin i 0 3) ∨ (r = 0 ∧ ¬ zin i 0 3)))) := by
  unfold zi32 at hi
  refine zMet.of RX8 rfl (by decide +kernel) (Nat.le_of_ble_eq_true rfl) [some (vi i)] rfl (fun E hG X hQ hNm => ?_)
  subst hG
  refine z_iload_n X dX8_isConstant_0 rfl ?_
  refine z_i2l X dX8_isConstant_1 (by omega) ?_
  refine z_lconst X dX8_isConstant_2 0 rfl ?_
  refine z_ldc2 X dX8_isConstant_3 q_X8_94 (3) (by decide) ?_
  refine z_callSi X (As := [_, _, _]) dX8_isConstant_6 m_X8_in s_X8_in l_X8_86 (c_X8_in (zg E) (by omega) (by omega) (by omega)) rfl rfl (Nat.le_of_ble_eq_true rfl) ⟨Nat.le_of_ble_eq_true rfl, Nat.le_of_ble_eq_true rfl⟩ ⟨Nat.le_of_ble_eq_true rfl, Nat.le_of_ble_eq_true rfl⟩ ⟨rfl, rfl⟩ (fun r m1 hm => ?_)
  refine z_zreturn (st := []) X rfl hQ dX8_isConstant_9 (by first | exact Or.inl rfl | exact Or.inr rfl | omega) ⟨rfl, _, rfl, ?_⟩
  exact hm
theorem zmdr.h7 {m : zM} {q d : Nat} {x : Option zDr} (h : zmdr m q d x) : (m (q + 7) d = -6 ∧ x = none) ∨ ∃ y, x = some y ∧ m (q + 7) d = (y.1 : Int) ∧ m (q + 8) d = (y.2.1 : Int) ∧ m (q + 9) d = (y.2.2.1 : Int) ∧ zsl m q (4 * d) y.2.2.2.1 ∧ zsl m q (4 * d + 1) y.2.2.2.2.1 ∧ zsl m q (4 * d + 2) y.2.2.2.2.2.1 ∧ zsl m q (4 * d + 3) y.2.2.2.2.2.2 := by
  cases x with
  | none => exact Or.inl ⟨h, rfl⟩
  | some y => exact Or.inr ⟨y, rfl, h⟩
theorem zl8_emptied {E : zCx} (X : zOK E cX8_emptied RX8 4 (some .int) k_X8_emptied.2.2.2.2) {A : zA} {q s : Nat} {σ : zSt} {m0 : zM} (hs6 : s < 6) (hA : zmodA A q) (ho : ∀ d y, d < 8 → sD σ d = some y → y.1 < 6) {P : Int → zM → Prop} (hQ : zRet E (zpi A P) 0 0) (hP : ∀ m', zMR q m' (wD σ (zdem (sD σ) s)) → zmm q m0 m' → P (zdcn (sD σ) s 8 : Int) m') : ∀ (r n : Nat) (m : zM), n + r = 8 → zMR q m (wD σ (zdemN (sD σ) s n)) → zmm q m0 m → zW E (0, 0) A m 4 [some (vr q), some (vi (s : Int)), some (vi (zdcn (sD σ) s n : Int)), some (vi (n : Int))] [] := by
  obtain ⟨⟨hO0, f0, f1, f2, f3, f4, f5, f6, f7, f8, f9, f10, f11, f12, f16, f24, f25⟩, ⟨g1, g2, g3⟩, ⟨g4, g5, g6, g7, g8, g9⟩, ⟨g10, g11, g12, g13⟩, g14, g15, g16⟩ := id hA
  intro r
  induction r with
  | zero =>
    intro n m hn hm hF
    obtain rfl : n = 8 := by omega
    refine z_iload_n X dX8_emptied_4 rfl ?_
    refine z_bipush X dX8_emptied_5 (by decide) ?_
    refine z_icmp_ge X dX8_emptied_7 61 (by decide) (by omega) (by omega) (fun h7 => ?_) (fun h7 => ?_)
    · refine z_iload_n X dX8_emptied_61 rfl ?_
      refine z_ireturn (st := []) X rfl hQ dX8_emptied_62 ⟨rfl, _, rfl, ?_⟩
      exact hP m (hm.D (fun d hd => by unfold zdemN; rw [if_pos hd])) hF
    · exact absurd h7 (by omega)
  | succ r ih =>
    intro n m hn hm hF
    have hle := zdcn_le (sD σ) s n
    have hdr := hm.2.1 n (by omega)
    have hDn : sD (wD σ (zdemN (sD σ) s n)) n = sD σ n := by show zdemN (sD σ) s n n = _; unfold zdemN; rw [if_neg (by omega)]
    rw [hDn] at hdr
    have hcn : zdcn (sD σ) s (n + 1) = zdcn (sD σ) s n + match sD σ n with
      | some x => if x.1 = s then 1 else 0
      | none => 0 := rfl
    have h7' : (m (q + 7) n = (s : Int) ∧ zdcn (sD σ) s (n + 1) = zdcn (sD σ) s n + 1 ∧ zdem (sD σ) s n = none) ∨ (m (q + 7) n ≠ (s : Int) ∧ (-6 ≤ m (q + 7) n ∧ m (q + 7) n < 6) ∧ zdcn (sD σ) s (n + 1) = zdcn (sD σ) s n ∧ zdem (sD σ) s n = sD σ n) := by
      rcases hdr.h7 with ⟨h, e⟩ | ⟨y, e, h, _⟩
      · refine Or.inr ⟨by omega, by omega, by rw [hcn, e]; rfl, by unfold zdem; rw [e]⟩
      · have hy := ho n y (by omega) e
        by_cases he : y.1 = s
        · exact Or.inl ⟨by omega, by rw [hcn, e]; simp [he], by unfold zdem; rw [e]; simp [he]⟩
        · exact Or.inr ⟨by omega, by omega, by rw [hcn, e]; simp [he], by unfold zdem; rw [e]; simp [he]⟩
    have hr7 : -6 ≤ m (q + 7) n ∧ m (q + 7) n < 6 := by omega
    have step1 : m (q + 7) n = (s : Int) → zMR q (zms m (q + 7) n (-6)) (wD σ (zdemN (sD σ) s (n + 1))) := fun h => by
      have h2 : zdem (sD σ) s n = none := by
        rcases h7' with g | g
        · exact g.2.2
        · exact absurd h g.1
      have hm' : zMR q (zms m (q + 7) n (-6)) (wD (wD σ (zdemN (sD σ) s n)) (zup (zdemN (sD σ) s n) n none)) := hm.dr (x := none) (by omega) (zms_same _ _ _ _) (fun a j _ g => zms_ne _ _ _ _ (by omega)) (fun j _ => zms_nq _ _ _ _ _ (by omega)) (fun y _ _ => zSq_nq (by omega))
      exact hm'.D (σ := wD σ (zdemN (sD σ) s n)) (fun d _ => zdemN_take h2 d)
    have step2 : m (q + 7) n ≠ (s : Int) → zMR q (zms m (q + 7) n (m (q + 7) n)) (wD σ (zdemN (sD σ) s (n + 1))) := fun h => by
      have h2 : zdem (sD σ) s n = sD σ n := by
        rcases h7' with g | g
        · exact absurd g.1 h
        · exact g.2.2.2
      have e : zms m (q + 7) n (m (q + 7) n) = m := by
        funext a j
        unfold zms
        split
        · rename_i g; rw [g.1, g.2]
        · rfl
      rw [e]
      exact hm.D (fun d _ => zdemN_skip h2 d)
    refine z_iload_n X dX8_emptied_4 rfl ?_
    refine z_bipush X dX8_emptied_5 (by decide) ?_
    refine z_icmp_ge X dX8_emptied_7 61 (by decide) (by omega) (by omega) (fun h7 => ?_) (fun h7 => ?_)
    · exact absurd h7 (by omega)
    · refine z_iload_n X dX8_emptied_10 rfl ?_
      refine z_aload_n X dX8_emptied_11 rfl ?_
      refine z_getR X dX8_emptied_12 f_X8_30 rfl (by first | assumption | exact zbigA.o (by assumption)) (by assumption) ?_
      refine z_iload_n X dX8_emptied_15 rfl ?_
      refine z_iald X (n) dX8_emptied_16 (by omega) (by assumption) (by omega) (by omega) ?_
      refine z_iload_n X dX8_emptied_17 rfl ?_
      refine z_icmp_ne X dX8_emptied_18 25 (by decide) (by omega) (by omega) (fun h18 => ?_) (fun h18 => ?_)
      · refine z_iconst X dX8_emptied_25 ?_
        refine z_iadd X dX8_emptied_26 ?_
        refine z_istore_n X dX8_emptied_27 (fun y => [_, _, some (vi y), _]) (by decide) (fun _ => rfl) (fun k hk => ?_)
        refine z_aload_n X dX8_emptied_28 rfl ?_
        refine z_getR X dX8_emptied_29 f_X8_30 rfl (by first | assumption | exact zbigA.o (by assumption)) (by assumption) ?_
        refine z_iload_n X dX8_emptied_32 rfl ?_
        refine z_aload_n X dX8_emptied_33 rfl ?_
        refine z_getR X dX8_emptied_34 f_X8_30 rfl (by first | assumption | exact zbigA.o (by assumption)) (by assumption) ?_
        refine z_iload_n X dX8_emptied_37 rfl ?_
        refine z_iald X (n) dX8_emptied_38 (by omega) (by assumption) (by omega) (by omega) ?_
        refine z_iload_n X dX8_emptied_39 rfl ?_
        refine z_icmp_ne X dX8_emptied_40 48 (by decide) (by omega) (by omega) (fun h40 => ?_) (fun h40 => ?_)
        · refine z_aload_n X dX8_emptied_48 rfl ?_
          refine z_getR X dX8_emptied_49 f_X8_30 rfl (by first | assumption | exact zbigA.o (by assumption)) (by assumption) ?_
          refine z_iload_n X dX8_emptied_52 rfl ?_
          refine z_iald X (n) dX8_emptied_53 (by omega) (by assumption) (by omega) (by omega) ?_
          refine z_iast X (n) dX8_emptied_54 (by omega) (by assumption) (by omega) (by omega) ?_
          refine z_iinc X dX8_emptied_55 rfl (fun y => [_, _, _, some (vi y)]) (fun _ => rfl) (fun z hz => ?_)
          obtain rfl : z = ((n + 1 : Nat) : Int) := by omega
          refine z_goto X dX8_emptied_58 4 (by decide) ?_
          first
          | (exfalso; omega)
          | (have e : zdcn (sD σ) s (n + 1) = zdcn (sD σ) s n := by omega
             have h := ih (n + 1) _ (by omega) (step2 (by omega)) (hF.w (by omega))
             obtain rfl : k = (zdcn (sD σ) s (n + 1) : Int) := by omega
             exact h)
          | (have e : zdcn (sD σ) s (n + 1) = zdcn (sD σ) s n + 1 := by omega
             have h := ih (n + 1) _ (by omega) (step1 (by omega)) (hF.w (by omega))
             obtain rfl : k = (zdcn (sD σ) s (n + 1) : Int) := by omega
             exact h)
        · refine z_bipush X dX8_emptied_43 (by decide) ?_
          refine z_goto X dX8_emptied_45 54 (by decide) ?_
          refine z_iast X (n) dX8_emptied_54 (by omega) (by assumption) (by omega) (by omega) ?_
          refine z_iinc X dX8_emptied_55 rfl (fun y => [_, _, _, some (vi y)]) (fun _ => rfl) (fun z hz => ?_)
          obtain rfl : z = ((n + 1 : Nat) : Int) := by omega
          refine z_goto X dX8_emptied_58 4 (by decide) ?_
          first
          | (exfalso; omega)
          | (have e : zdcn (sD σ) s (n + 1) = zdcn (sD σ) s n := by omega
             have h := ih (n + 1) _ (by omega) (step2 (by omega)) (hF.w (by omega))
             obtain rfl : k = (zdcn (sD σ) s (n + 1) : Int) := by omega
             exact h)
          | (have e : zdcn (sD σ) s (n + 1) = zdcn (sD σ) s n + 1 := by omega
             have h := ih (n + 1) _ (by omega) (step1 (by omega)) (hF.w (by omega))
             obtain rfl : k = (zdcn (sD σ) s (n + 1) : Int) := by omega
             exact h)
      · refine z_iconst X dX8_emptied_21 ?_
        refine z_goto X dX8_emptied_22 26 (by decide) ?_
        refine z_iadd X dX8_emptied_26 ?_
        refine z_istore_n X dX8_emptied_27 (fun y => [_, _, some (vi y), _]) (by decide) (fun _ => rfl) (fun k hk => ?_)
        refine z_aload_n X dX8_emptied_28 rfl ?_
        refine z_getR X dX8_emptied_29 f_X8_30 rfl (by first | assumption | exact zbigA.o (by assumption)) (by assumption) ?_
        refine z_iload_n X dX8_emptied_32 rfl ?_
        refine z_aload_n X dX8_emptied_33 rfl ?_
        refine z_getR X dX8_emptied_34 f_X8_30 rfl (by first | assumption | exact zbigA.o (by assumption)) (by assumption) ?_
        refine z_iload_n X dX8_emptied_37 rfl ?_
        refine z_iald X (n) dX8_emptied_38 (by omega) (by assumption) (by omega) (by omega) ?_
        refine z_iload_n X dX8_emptied_39 rfl ?_
        refine z_icmp_ne X dX8_emptied_40 48 (by decide) (by omega) (by omega) (fun h40 => ?_) (fun h40 => ?_)
        · refine z_aload_n X dX8_emptied_48 rfl ?_
          refine z_getR X dX8_emptied_49 f_X8_30 rfl (by first | assumption | exact zbigA.o (by assumption)) (by assumption) ?_
          refine z_iload_n X dX8_emptied_52 rfl ?_
          refine z_iald X (n) dX8_emptied_53 (by omega) (by assumption) (by omega) (by omega) ?_
          refine z_iast X (n) dX8_emptied_54 (by omega) (by assumption) (by omega) (by omega) ?_
          refine z_iinc X dX8_emptied_55 rfl (fun y => [_, _, _, some (vi y)]) (fun _ => rfl) (fun z hz => ?_)
          obtain rfl : z = ((n + 1 : Nat) : Int) := by omega
          refine z_goto X dX8_emptied_58 4 (by decide) ?_
          first
          | (exfalso; omega)
          | (have e : zdcn (sD σ) s (n + 1) = zdcn (sD σ) s n := by omega
             have h := ih (n + 1) _ (by omega) (step2 (by omega)) (hF.w (by omega))
             obtain rfl : k = (zdcn (sD σ) s (n + 1) : Int) := by omega
             exact h)
          | (have e : zdcn (sD σ) s (n + 1) = zdcn (sD σ) s n + 1 := by omega
             have h := ih (n + 1) _ (by omega) (step1 (by omega)) (hF.w (by omega))
             obtain rfl : k = (zdcn (sD σ) s (n + 1) : Int) := by omega
             exact h)
        · refine z_bipush X dX8_emptied_43 (by decide) ?_
          refine z_goto X dX8_emptied_45 54 (by decide) ?_
          refine z_iast X (n) dX8_emptied_54 (by omega) (by assumption) (by omega) (by omega) ?_
          refine z_iinc X dX8_emptied_55 rfl (fun y => [_, _, _, some (vi y)]) (fun _ => rfl) (fun z hz => ?_)
          obtain rfl : z = ((n + 1 : Nat) : Int) := by omega
          refine z_goto X dX8_emptied_58 4 (by decide) ?_
          first
          | (exfalso; omega)
          | (have e : zdcn (sD σ) s (n + 1) = zdcn (sD σ) s n := by omega
             have h := ih (n + 1) _ (by omega) (step2 (by omega)) (hF.w (by omega))
             obtain rfl : k = (zdcn (sD σ) s (n + 1) : Int) := by omega
             exact h)
          | (have e : zdcn (sD σ) s (n + 1) = zdcn (sD σ) s n + 1 := by omega
             have h := ih (n + 1) _ (by omega) (step1 (by omega)) (hF.w (by omega))
             obtain rfl : k = (zdcn (sD σ) s (n + 1) : Int) := by omega
             exact h)
theorem c_X8_emptied (G : zG) {A : zA} {m : zM} {q : Nat} {σ : zSt} {i : Int} (s : Nat) (hi : i = (s : Int)) (hs : s < 6) (hA : zmodA A q) (ho : ∀ d y, d < 8 → sD σ d = some y → y.1 < 6) (hm : zMR q m σ) : zMet G k_X8_emptied [vr q, vi i] A m (zpi A (fun r m' => zMR q m' (wD σ (zdem (sD σ) s)) ∧ zmm q m m' ∧ r = (zdcn (sD σ) s 8 : Int))) := by
  subst hi
  obtain ⟨⟨hO0, f0, f1, f2, f3, f4, f5, f6, f7, f8, f9, f10, f11, f12, f16, f24, f25⟩, ⟨g1, g2, g3⟩, ⟨g4, g5, g6, g7, g8, g9⟩, ⟨g10, g11, g12, g13⟩, g14, g15, g16⟩ := id hA
  refine zMet.of RX8 rfl (by decide +kernel) (Nat.le_of_ble_eq_true rfl) [some (vr q), some (vi (s : Int)), none, none] rfl (fun E hG X hQ hNm => ?_)
  subst hG
  refine z_iconst X dX8_emptied_0 ?_
  refine z_istore_n X dX8_emptied_1 (fun y => [_, _, some (vi y), _]) (by decide) (fun _ => rfl) (fun x2_1 hx2_1 => ?_)
  subst hx2_1
  refine z_iconst X dX8_emptied_2 ?_
  refine z_istore_n X dX8_emptied_3 (fun y => [_, _, _, some (vi y)]) (by decide) (fun _ => rfl) (fun x3_3 hx3_3 => ?_)
  subst hx3_3
  have hm0 : zMR q m (wD σ (zdemN (sD σ) s 0)) := by rw [zdemN_0]; exact hm
  exact zl8_emptied X hs hA ho hQ (fun m' h g => ⟨h, g, rfl⟩) 8 0 m (by omega) hm0 zmm.r

/-! The model: the parts are built; widen -/
theorem zMR.k {q : Nat} {m m' : zM} {σ : zSt} (h : zMR q m σ) (hf : zsP q (fun x => 32 ≤ x) m m') : zMR q m' σ := h.e (fun a j _ => hf.1 a j (by omega)) (fun j _ => hf.1 q j (by omega)) (fun x hx => hf.2 x (by omega))
theorem zsl.sg {m : zM} {q s : Nat} {v u b : Int} (h : zsl m q s v) (hu : u.natAbs = v.natAbs) (hb : (b = 0 ∧ 0 ≤ u) ∨ (b = 1 ∧ u < 0)) : zsl (zms m (q + 3) s b) q s u := by
  obtain ⟨n, ⟨h1, h2⟩, h3, h4, h5⟩ := h
  have e4 : ∀ i, zwd (zms m (q + 3) s b) q s i = zwd m q s i := fun i => by unfold zwd; rw [zms_nq _ _ _ _ _ (by omega)]
  exact ⟨n, ⟨by rw [zms_nq _ _ _ _ _ (by omega)]; exact h1, h2⟩, fun hn => by rw [e4]; exact h3 hn, by rw [hu, h4]; exact zsum_congr (fun i _ => (e4 i).symm), by rw [zms_same]; exact hb⟩
theorem zsl.w3 {m : zM} {q s x : Nat} {v b : Int} (h : zsl m q x v) (hx : x ≠ s) : zsl (zms m (q + 3) s b) q x v := h.k ((zsP.rfl' (S := fun y => y = s)).w3 rfl) hx
/-- the parts of a constant with t terms each -/
def zbld (q : Nat) (σ : zSt) (k t : Nat) (m : zM) : Prop := ∀ p, p < (sK σ k).1 → zsp4 m q (32 + 5 * p) (zgo (sC σ ((sK σ k).2 p).1) 0 zq0 t) ∧ (1 ≤ t → zsl m q (32 + 5 * p + 4) (zgo (sC σ ((sK σ k).2 p).1) 0 zq0 (t - 1)).2.2.1)
theorem zbld.k {q : Nat} {σ : zSt} {k t : Nat} {m m' : zM} (h : zbld q σ k t m) (hf : zsP q (fun x => 52 ≤ x) m m') (hk : (sK σ k).1 ≤ 4) : zbld q σ k t m' := fun p hp => ⟨(h p hp).1.k hf (by omega), fun ht => ((h p hp).2 ht).k hf (by omega)⟩
theorem zl8_beginParts {E : zCx} (X : zOK E cX8_beginParts RX8 3 none k_X8_beginParts.2.2.2.2) {A : zA} {q k : Nat} {σ : zSt} {m0 : zM} (hA : zmodA A q) (hm : zMR q m0 σ) (ho : zStok σ) (hk : k < 4) {P : zM → Prop} (hQ : zRet E (zpv A P) 0 0) (hP : ∀ m', zbld q σ k 0 m' → zsP q (fun x => 32 ≤ x) m0 m' → P m') : ∀ (r i : Nat) (m : zM), i + r = (sK σ k).1 → (∀ p, p < i → zsp4 m q (32 + 5 * p) zq0) → zsP q (fun x => 32 ≤ x) m0 m → zW E (0, 0) A m 2 [some (vr q), some (vi (k : Int)), some (vi (i : Int))] [] := by
  obtain ⟨⟨hO0, f0, f1, f2, f3, f4, f5, f6, f7, f8, f9, f10, f11, f12, f16, f24, f25⟩, ⟨g1, g2, g3⟩, ⟨g4, g5, g6, g7, g8, g9⟩, ⟨g10, g11, g12, g13⟩, g14, g15, g16⟩ := id hA
  have hk4 := (ho.2.2.1 k hk).1
  have q1 := (hm.2.2.1 k hk).1
  intro r
  induction r with
  | zero =>
    intro i m hi hb hF
    have e1 : m (q + 10) k = ((sK σ k).1 : Int) := (hF.1 _ _ (by omega)).trans q1
    refine z_iload_n X dX8_beginParts_2 rfl ?_
    refine z_aload_n X dX8_beginParts_3 rfl ?_
    refine z_getR X dX8_beginParts_4 f_X8_39 rfl (by first | assumption | exact zbigA.o (by assumption)) (by assumption) ?_
    refine z_iload_n X dX8_beginParts_7 rfl ?_
    refine z_iald X (k) dX8_beginParts_8 (by omega) (by assumption) (by omega) (by omega) ?_
    refine z_icmp_ge X dX8_beginParts_9 28 (by decide) (by omega) (by omega) (fun h9 => ?_) (fun h9 => ?_)
    · refine z_return (st := []) X rfl hQ dX8_beginParts_28 ⟨rfl, rfl, ?_⟩
      exact hP m (fun p hp => ⟨hb p (by omega), fun h => absurd h (by omega)⟩) hF
    · exact absurd h9 (by omega)
  | succ r ih =>
    intro i m hi hb hF
    have e1 : m (q + 10) k = ((sK σ k).1 : Int) := (hF.1 _ _ (by omega)).trans q1
    refine z_iload_n X dX8_beginParts_2 rfl ?_
    refine z_aload_n X dX8_beginParts_3 rfl ?_
    refine z_getR X dX8_beginParts_4 f_X8_39 rfl (by first | assumption | exact zbigA.o (by assumption)) (by assumption) ?_
    refine z_iload_n X dX8_beginParts_7 rfl ?_
    refine z_iald X (k) dX8_beginParts_8 (by omega) (by assumption) (by omega) (by omega) ?_
    refine z_icmp_ge X dX8_beginParts_9 28 (by decide) (by omega) (by omega) (fun h9 => ?_) (fun h9 => ?_)
    · exact absurd h9 (by omega)
    · refine z_aload_n X dX8_beginParts_12 rfl ?_
      refine z_bipush X dX8_beginParts_13 (by decide) ?_
      refine z_iconst X dX8_beginParts_15 ?_
      refine z_iload_n X dX8_beginParts_16 rfl ?_
      refine z_imul X dX8_beginParts_17 ?_
      refine z_iadd X dX8_beginParts_18 ?_
      refine z_callVv X (As := [_]) dX8_beginParts_19 m_X8_begin i_X8_begin l_X8_153 (c_X8_begin (zg E) (a := 32 + 5 * i) hA (by omega) (by omega)) (by first | assumption | exact zbigA.o (by assumption)) rfl rfl rfl (Nat.le_of_ble_eq_true rfl) ⟨Nat.le_of_ble_eq_true rfl, Nat.le_of_ble_eq_true rfl⟩ ⟨Nat.le_of_ble_eq_true rfl, Nat.le_of_ble_eq_true rfl⟩ ⟨rfl, rfl⟩ (fun m1 hm1 => ?_)
      obtain ⟨h4, hf⟩ := hm1
      refine z_iinc X dX8_beginParts_22 rfl (fun y => [_, _, some (vi y)]) (fun _ => rfl) (fun z hz => ?_)
      obtain rfl : z = ((i + 1 : Nat) : Int) := by omega
      refine z_goto X dX8_beginParts_25 2 (by decide) ?_
      refine ih (i + 1) m1 (by omega) (fun p hp => ?_) (hF.k hf (fun x h => by omega))
      by_cases hpi : p = i
      · subst hpi; exact h4
      · exact (hb p (by omega)).k hf (by omega)
theorem c_X8_beginParts (G : zG) {A : zA} {m : zM} {q k : Nat} {σ : zSt} {ki : Int} (hA : zmodA A q) (hm : zMR q m σ) (ho : zStok σ) (hki : ki = (k : Int)) (hk : k < 4) : zMet G k_X8_beginParts [vr q, vi ki] A m (zpv A (fun m' => zbld q σ k 0 m' ∧ zsP q (fun x => 32 ≤ x) m m')) := by
  subst hki
  obtain ⟨⟨hO0, f0, f1, f2, f3, f4, f5, f6, f7, f8, f9, f10, f11, f12, f16, f24, f25⟩, ⟨g1, g2, g3⟩, ⟨g4, g5, g6, g7, g8, g9⟩, ⟨g10, g11, g12, g13⟩, g14, g15, g16⟩ := id hA
  refine zMet.of RX8 rfl (by decide +kernel) (Nat.le_of_ble_eq_true rfl) [some (vr q), some (vi (k : Int)), none] rfl (fun E hG X hQ hNm => ?_)
  subst hG
  refine z_iconst X dX8_beginParts_0 ?_
  refine z_istore_n X dX8_beginParts_1 (fun y => [_, _, some (vi y)]) (by decide) (fun _ => rfl) (fun x2_1 hx2_1 => ?_)
  subst hx2_1
  exact zl8_beginParts X hA hm ho hk hQ (fun m' h1 h2 => ⟨h1, h2⟩) (sK σ k).1 0 m (by omega) (fun p hp => absurd hp (by omega)) zsP.rfl'
theorem zl8_goParts {E : zCx} (X : zOK E cX8_goParts RX8 5 none k_X8_goParts.2.2.2.2) {A : zA} {q k t : Nat} {σ : zSt} {m0 : zM} (hA : zmodA A q) (hm : zMR q m0 σ) (ho : zStok σ) (hk : k < 4) (ht : t < 100) {P : zM → Prop} (hQ : zRet E (zpv A P) 0 0) (hP : ∀ m', zbld q σ k (t + 1) m' → zsP q (fun x => 32 ≤ x) m0 m' → P m') : ∀ (r i : Nat) (m : zM) (l4 : Option Value), i + r = (sK σ k).1 → (∀ p, p < i → zsp4 m q (32 + 5 * p) (zgo (sC σ ((sK σ k).2 p).1) 0 zq0 (t + 1)) ∧ zsl m q (32 + 5 * p + 4) (zgo (sC σ ((sK σ k).2 p).1) 0 zq0 t).2.2.1) → (∀ p, i ≤ p → p < (sK σ k).1 → zsp4 m q (32 + 5 * p) (zgo (sC σ ((sK σ k).2 p).1) 0 zq0 t)) → zsP q (fun x => 32 ≤ x) m0 m → zW E (0, 0) A m 2 [some (vr q), some (vi (k : Int)), some (vi (t : Int)), some (vi (i : Int)), l4] [] := by
  obtain ⟨⟨hO0, f0, f1, f2, f3, f4, f5, f6, f7, f8, f9, f10, f11, f12, f16, f24, f25⟩, ⟨g1, g2, g3⟩, ⟨g4, g5, g6, g7, g8, g9⟩, ⟨g10, g11, g12, g13⟩, g14, g15, g16⟩ := id hA
  have hk4 := (ho.2.2.1 k hk).1
  obtain ⟨q1, q2⟩ := hm.2.2.1 k hk
  intro r
  induction r with
  | zero =>
    intro i m l4 hi hb hc hF
    have e1 : m (q + 10) k = ((sK σ k).1 : Int) := (hF.1 _ _ (by omega)).trans q1
    refine z_iload_n X dX8_goParts_2 rfl ?_
    refine z_aload_n X dX8_goParts_3 rfl ?_
    refine z_getR X dX8_goParts_4 f_X8_39 rfl (by first | assumption | exact zbigA.o (by assumption)) (by assumption) ?_
    refine z_iload_n X dX8_goParts_7 rfl ?_
    refine z_iald X (k) dX8_goParts_8 (by omega) (by assumption) (by omega) (by omega) ?_
    refine z_icmp_ge X dX8_goParts_9 55 (by decide) (by omega) (by omega) (fun h9 => ?_) (fun h9 => ?_)
    · refine z_return (st := []) X rfl hQ dX8_goParts_55 ⟨rfl, rfl, ?_⟩
      exact hP m (fun p hp => ⟨(hb p (by omega)).1, fun _ => (hb p (by omega)).2⟩) hF
    · exact absurd h9 (by omega)
  | succ r ih =>
    intro i m l4 hi hb hc hF
    have e1 : m (q + 10) k = ((sK σ k).1 : Int) := (hF.1 _ _ (by omega)).trans q1
    have e2 : m (q + 11) (4 * k + i) = (((sK σ k).2 i).1 : Int) := (hF.1 _ _ (by omega)).trans (q2 i (by omega)).1
    have hs6 := ((ho.2.2.1 k hk).2 i (by omega)).1
    have h4 := hc i (by omega) (by omega)
    have hsu := (hm.1 _ hs6).k hF rfl
    have hco := (ho.1 _ hs6).1
    have hz := zok_go hco zok_0 (k := 0) (d := t) (by omega)
    have hG : zsP q (fun x => 32 + 5 * i ≤ x ∧ x < 32 + 5 * i + 5 ∨ x = 55 ∨ x = 59) m m := zsP.rfl'
    refine z_iload_n X dX8_goParts_2 rfl ?_
    refine z_aload_n X dX8_goParts_3 rfl ?_
    refine z_getR X dX8_goParts_4 f_X8_39 rfl (by first | assumption | exact zbigA.o (by assumption)) (by assumption) ?_
    refine z_iload_n X dX8_goParts_7 rfl ?_
    refine z_iald X (k) dX8_goParts_8 (by omega) (by assumption) (by omega) (by omega) ?_
    refine z_icmp_ge X dX8_goParts_9 55 (by decide) (by omega) (by omega) (fun h9 => ?_) (fun h9 => ?_)
    · exact absurd h9 (by omega)
    · refine z_bipush X dX8_goParts_12 (by decide) ?_
      refine z_iconst X dX8_goParts_14 ?_
      refine z_iload_n X dX8_goParts_15 rfl ?_
      refine z_imul X dX8_goParts_16 ?_
      refine z_iadd X dX8_goParts_17 ?_
      refine z_istore X dX8_goParts_18 (fun y => [_, _, _, _, some (vi y)]) (by decide) (fun _ => rfl) (fun a ha => ?_)
      obtain rfl : a = ((32 + 5 * i : Nat) : Int) := by omega
      refine z_aload_n X dX8_goParts_20 rfl ?_
      refine z_iload X dX8_goParts_21 rfl ?_
      refine z_iconst X dX8_goParts_23 ?_
      refine z_iadd X dX8_goParts_24 ?_
      refine z_iload X dX8_goParts_25 rfl ?_
      refine z_iconst X dX8_goParts_27 ?_
      refine z_iadd X dX8_goParts_28 ?_
      refine z_callVv X (As := [_, _]) dX8_goParts_29 m_X8_copy i_X8_copy l_X8_81 (c_X8_copy (zg E) (a := 32 + 5 * i + 2) (b := 32 + 5 * i + 4) hA (by omega) (by omega) (by omega) (by omega) (by omega) h4.2.2.1) (by first | assumption | exact zbigA.o (by assumption)) rfl rfl rfl (Nat.le_of_ble_eq_true rfl) ⟨Nat.le_of_ble_eq_true rfl, Nat.le_of_ble_eq_true rfl⟩ ⟨Nat.le_of_ble_eq_true rfl, Nat.le_of_ble_eq_true rfl⟩ ⟨rfl, rfl⟩ (fun m1 hm1 => ?_)
      obtain ⟨c4, hf⟩ := hm1
      have h4 := h4.k hf (by omega)
      have hsu := hsu.k hf (by omega)
      have hG := hG.k hf (fun x h => by omega)
      have e2 : m1 (q + 11) (4 * k + i) = (((sK σ k).2 i).1 : Int) := (hf.1 _ _ (by omega)).trans e2
      refine z_aload_n X dX8_goParts_32 rfl ?_
      refine z_iload X dX8_goParts_33 rfl ?_
      refine z_aload_n X dX8_goParts_35 rfl ?_
      refine z_getR X dX8_goParts_36 f_X8_42 rfl (by first | assumption | exact zbigA.o (by assumption)) (by assumption) ?_
      refine z_iconst X dX8_goParts_39 ?_
      refine z_iload_n X dX8_goParts_40 rfl ?_
      refine z_imul X dX8_goParts_41 ?_
      refine z_iload_n X dX8_goParts_42 rfl ?_
      refine z_iadd X dX8_goParts_43 ?_
      refine z_iald X (4 * k + i) dX8_goParts_44 (by omega) (by assumption) (by omega) (by omega) ?_
      refine z_iload_n X dX8_goParts_45 rfl ?_
      refine z_callVv X (As := [_, _, _]) dX8_goParts_46 m_X8_go i_X8_go l_X8_156 (c_X8_go (zg E) (a := 32 + 5 * i) (k := t) (s := ((sK σ k).2 i).1) hA rfl (by omega) e2 hs6 rfl ht hsu hco hz (by omega) h4) (by first | assumption | exact zbigA.o (by assumption)) rfl rfl rfl (Nat.le_of_ble_eq_true rfl) ⟨Nat.le_of_ble_eq_true rfl, Nat.le_of_ble_eq_true rfl⟩ ⟨Nat.le_of_ble_eq_true rfl, Nat.le_of_ble_eq_true rfl⟩ ⟨rfl, rfl⟩ (fun m2 hm2 => ?_)
      obtain ⟨h4, hf⟩ := hm2
      have c4 := c4.k hf (by omega)
      have hG := hG.k hf (fun x h => by omega)
      refine z_iinc X dX8_goParts_49 rfl (fun y => [_, _, _, some (vi y), _]) (fun _ => rfl) (fun z hz => ?_)
      obtain rfl : z = ((i + 1 : Nat) : Int) := by omega
      refine z_goto X dX8_goParts_52 2 (by decide) ?_
      refine ih (i + 1) m2 _ (by omega) (fun p hp => ?_) (fun p h1 h2 => (hc p (by omega) h2).k hG (by omega)) (hF.k hG (fun x h => by omega))
      by_cases hpi : p = i
      · subst hpi
        have e : zgo (sC σ ((sK σ k).2 p).1) 0 zq0 (t + 1) = zgoS (sC σ ((sK σ k).2 p).1) t (zgo (sC σ ((sK σ k).2 p).1) 0 zq0 t) := by show zgoS _ (0 + t) _ = _; rw [Nat.zero_add]
        rw [e]
        exact ⟨h4, c4⟩
      · exact ⟨(hb p (by omega)).1.k hG (by omega), (hb p (by omega)).2.k hG (by omega)⟩
theorem c_X8_goParts (G : zG) {A : zA} {m : zM} {q k t : Nat} {σ : zSt} {ki ti : Int} (hA : zmodA A q) (hm : zMR q m σ) (ho : zStok σ) (hki : ki = (k : Int)) (hti : ti = (t : Int)) (hk : k < 4) (ht : t < 100) (hb : zbld q σ k t m) : zMet G k_X8_goParts [vr q, vi ki, vi ti] A m (zpv A (fun m' => zbld q σ k (t + 1) m' ∧ zsP q (fun x => 32 ≤ x) m m')) := by
  subst hki hti
  obtain ⟨⟨hO0, f0, f1, f2, f3, f4, f5, f6, f7, f8, f9, f10, f11, f12, f16, f24, f25⟩, ⟨g1, g2, g3⟩, ⟨g4, g5, g6, g7, g8, g9⟩, ⟨g10, g11, g12, g13⟩, g14, g15, g16⟩ := id hA
  refine zMet.of RX8 rfl (by decide +kernel) (Nat.le_of_ble_eq_true rfl) [some (vr q), some (vi (k : Int)), some (vi (t : Int)), none, none] rfl (fun E hG X hQ hNm => ?_)
  subst hG
  refine z_iconst X dX8_goParts_0 ?_
  refine z_istore_n X dX8_goParts_1 (fun y => [_, _, _, some (vi y), _]) (by decide) (fun _ => rfl) (fun x3_1 hx3_1 => ?_)
  subst hx3_1
  exact zl8_goParts X hA hm ho hk ht hQ (fun m' h1 h2 => ⟨h1, h2⟩) (sK σ k).1 0 m none (by omega) (fun p hp => absurd hp (by omega)) (fun p _ hp => (hb p hp).1) zsP.rfl'
theorem zl8_build {E : zCx} (X : zOK E cX8_build RX8 4 none k_X8_build.2.2.2.2) {A : zA} {q k N : Nat} {σ : zSt} {m0 : zM} (hA : zmodA A q) (hm : zMR q m0 σ) (ho : zStok σ) (hk : k < 4) (hN : N ≤ 100) {P : zM → Prop} (hQ : zRet E (zpv A P) 0 0) (hP : ∀ m', zbld q σ k N m' → zsP q (fun x => 32 ≤ x) m0 m' → P m') : ∀ (r t : Nat) (m : zM), t + r = N → zbld q σ k t m → zsP q (fun x => 32 ≤ x) m0 m → zW E (0, 0) A m 7 [some (vr q), some (vi (k : Int)), some (vi (N : Int)), some (vi (t : Int))] [] := by
  obtain ⟨⟨hO0, f0, f1, f2, f3, f4, f5, f6, f7, f8, f9, f10, f11, f12, f16, f24, f25⟩, ⟨g1, g2, g3⟩, ⟨g4, g5, g6, g7, g8, g9⟩, ⟨g10, g11, g12, g13⟩, g14, g15, g16⟩ := id hA
  intro r
  induction r with
  | zero =>
    intro t m ht hb hF
    obtain rfl : t = N := by omega
    refine z_iload_n X dX8_build_7 rfl ?_
    refine z_iload_n X dX8_build_8 rfl ?_
    refine z_icmp_ge X dX8_build_9 24 (by decide) (by omega) (by omega) (fun h9 => ?_) (fun h9 => ?_)
    · refine z_return (st := []) X rfl hQ dX8_build_24 ⟨rfl, rfl, ?_⟩
      exact hP m hb hF
    · exact absurd h9 (by omega)
  | succ r ih =>
    intro t m ht hb hF
    refine z_iload_n X dX8_build_7 rfl ?_
    refine z_iload_n X dX8_build_8 rfl ?_
    refine z_icmp_ge X dX8_build_9 24 (by decide) (by omega) (by omega) (fun h9 => ?_) (fun h9 => ?_)
    · exact absurd h9 (by omega)
    · refine z_aload_n X dX8_build_12 rfl ?_
      refine z_iload_n X dX8_build_13 rfl ?_
      refine z_iload_n X dX8_build_14 rfl ?_
      refine z_callVv X (As := [_, _]) dX8_build_15 m_X8_goParts i_X8_goParts l_X8_208 (c_X8_goParts (zg E) (t := t) hA (hm.k hF) ho rfl rfl hk (by omega) hb) (by first | assumption | exact zbigA.o (by assumption)) rfl rfl rfl (Nat.le_of_ble_eq_true rfl) ⟨Nat.le_of_ble_eq_true rfl, Nat.le_of_ble_eq_true rfl⟩ ⟨Nat.le_of_ble_eq_true rfl, Nat.le_of_ble_eq_true rfl⟩ ⟨rfl, rfl⟩ (fun m1 hm1 => ?_)
      obtain ⟨hb1, hf⟩ := hm1
      refine z_iinc X dX8_build_18 rfl (fun y => [_, _, _, some (vi y)]) (fun _ => rfl) (fun z hz => ?_)
      obtain rfl : z = ((t + 1 : Nat) : Int) := by omega
      refine z_goto X dX8_build_21 7 (by decide) ?_
      exact ih (t + 1) m1 (by omega) hb1 (hF.t hf)
theorem c_X8_build (G : zG) {A : zA} {m : zM} {q k N : Nat} {σ : zSt} {ki Ni : Int} (hA : zmodA A q) (hm : zMR q m σ) (ho : zStok σ) (hki : ki = (k : Int)) (hNi : Ni = (N : Int)) (hk : k < 4) (hN : N ≤ 100) : zMet G k_X8_build [vr q, vi ki, vi Ni] A m (zpv A (fun m' => zbld q σ k N m' ∧ zsP q (fun x => 32 ≤ x) m m')) := by
  subst hki hNi
  obtain ⟨⟨hO0, f0, f1, f2, f3, f4, f5, f6, f7, f8, f9, f10, f11, f12, f16, f24, f25⟩, ⟨g1, g2, g3⟩, ⟨g4, g5, g6, g7, g8, g9⟩, ⟨g10, g11, g12, g13⟩, g14, g15, g16⟩ := id hA
  refine zMet.of RX8 rfl (by decide +kernel) (Nat.le_of_ble_eq_true rfl) [some (vr q), some (vi (k : Int)), some (vi (N : Int)), none] rfl (fun E hG X hQ hNm => ?_)
  subst hG
  refine z_aload_n X dX8_build_0 rfl ?_
  refine z_iload_n X dX8_build_1 rfl ?_
  refine z_callVv X (As := [_]) dX8_build_2 m_X8_beginParts i_X8_beginParts l_X8_205 (c_X8_beginParts (zg E) hA hm ho rfl hk) (by first | assumption | exact zbigA.o (by assumption)) rfl rfl rfl (Nat.le_of_ble_eq_true rfl) ⟨Nat.le_of_ble_eq_true rfl, Nat.le_of_ble_eq_true rfl⟩ ⟨Nat.le_of_ble_eq_true rfl, Nat.le_of_ble_eq_true rfl⟩ ⟨rfl, rfl⟩ (fun m1 hm1 => ?_)
  obtain ⟨hb1, hf⟩ := hm1
  refine z_iconst X dX8_build_5 ?_
  refine z_istore_n X dX8_build_6 (fun y => [_, _, _, some (vi y)]) (by decide) (fun _ => rfl) (fun x3_6 hx3_6 => ?_)
  subst hx3_6
  exact zl8_build X hA hm ho hk hN hQ (fun m' h1 h2 => ⟨h1, h2⟩) N 0 m1 (by omega) hb1 hf
theorem c_X8_widen (G : zG) {A : zA} {m : zM} {q b : Nat} {bi lb L W Y K D u : Int} (hA : zmodA A q) (hbi : bi = (b : Int)) (hb : b = 52 ∨ b = 53) (hl : lb = 0 ∨ lb = 1) (hL : zsl m q b L) (hW : zsl m q 55 W) (hK : zsl m q 56 K) (hY : zsl m q 57 Y) (hD : zsl m q 54 D) (bL : zle L 20000) (bW : zle W 4840) (bK : zle K 4848) (bY : zle Y 4848) (bD : zle D 20000) (hu : (lb = 0 ∧ u = L * W + Y * D + K * D) ∨ (lb = 1 ∧ u = L * W + Y * D - K * D)) :
    zMet G k_X8_widen [vr q, vi bi, vi lb] A m (zpv A (fun m' => zsl m' q b u ∧ zsP q (fun x => x = b ∨ x = 58 ∨ x = 59) m m')) := by
  subst hbi
  obtain ⟨⟨hO0, f0, f1, f2, f3, f4, f5, f6, f7, f8, f9, f10, f11, f12, f16, f24, f25⟩, ⟨g1, g2, g3⟩, ⟨g4, g5, g6, g7, g8, g9⟩, ⟨g10, g11, g12, g13⟩, g14, g15, g16⟩ := id hA
  have b1 := (bL.mul bW).mono (b := 24848) (by omega)
  have b2 := bY.mul bD
  have b3 := bK.mul bD
  have b4 := b1.add b2
  have hF : zsP q (fun x => x = b ∨ x = 58 ∨ x = 59) m m := zsP.rfl'
  refine zMet.of RX8 rfl (by decide +kernel) (Nat.le_of_ble_eq_true rfl) [some (vr q), some (vi (b : Int)), some (vi lb)] rfl (fun E hG X hQ hNm => ?_)
  subst hG
  refine z_aload_n X dX8_widen_0 rfl ?_
  refine z_iload_n X dX8_widen_1 rfl ?_
  refine z_bipush X dX8_widen_2 (by decide) ?_
  refine z_bipush X dX8_widen_4 (by decide) ?_
  refine z_callVv X (As := [_, _, _]) dX8_widen_6 m_X8_multiply i_X8_multiply l_X8_140 (c_X8_multiply (zg E) (a := b) (b := 55) (t := 58) hA rfl rfl rfl (by omega) (by omega) (by omega) (by omega) (by omega) hL hW bL bW (by omega)) (by first | assumption | exact zbigA.o (by assumption)) rfl rfl rfl (Nat.le_of_ble_eq_true rfl) ⟨Nat.le_of_ble_eq_true rfl, Nat.le_of_ble_eq_true rfl⟩ ⟨Nat.le_of_ble_eq_true rfl, Nat.le_of_ble_eq_true rfl⟩ ⟨rfl, rfl⟩ (fun m1 hm => ?_)
  obtain ⟨h1, hf⟩ := hm
  have hW := hW.k hf (by omega)
  have hK := hK.k hf (by omega)
  have hY := hY.k hf (by omega)
  have hD := hD.k hf (by omega)
  have hF := hF.k hf (fun x h => by omega)
  refine z_aload_n X dX8_widen_9 rfl ?_
  refine z_bipush X dX8_widen_10 (by decide) ?_
  refine z_iload_n X dX8_widen_12 rfl ?_
  refine z_callVv X (As := [_, _]) dX8_widen_13 m_X8_copy i_X8_copy l_X8_81 (c_X8_copy (zg E) (a := 58) (b := b) hA rfl rfl (by omega) (by omega) (by omega) h1) (by first | assumption | exact zbigA.o (by assumption)) rfl rfl rfl (Nat.le_of_ble_eq_true rfl) ⟨Nat.le_of_ble_eq_true rfl, Nat.le_of_ble_eq_true rfl⟩ ⟨Nat.le_of_ble_eq_true rfl, Nat.le_of_ble_eq_true rfl⟩ ⟨rfl, rfl⟩ (fun m2 hm => ?_)
  obtain ⟨hL, hf⟩ := hm
  have hW := hW.k hf (by omega)
  have hK := hK.k hf (by omega)
  have hY := hY.k hf (by omega)
  have hD := hD.k hf (by omega)
  have hF := hF.k hf (fun x h => by omega)
  refine z_aload_n X dX8_widen_16 rfl ?_
  refine z_bipush X dX8_widen_17 (by decide) ?_
  refine z_bipush X dX8_widen_19 (by decide) ?_
  refine z_bipush X dX8_widen_21 (by decide) ?_
  refine z_callVv X (As := [_, _, _]) dX8_widen_23 m_X8_multiply i_X8_multiply l_X8_140 (c_X8_multiply (zg E) (a := 57) (b := 54) (t := 58) hA rfl rfl rfl (by omega) (by omega) (by omega) (by omega) (by omega) hY hD bY bD (by omega)) (by first | assumption | exact zbigA.o (by assumption)) rfl rfl rfl (Nat.le_of_ble_eq_true rfl) ⟨Nat.le_of_ble_eq_true rfl, Nat.le_of_ble_eq_true rfl⟩ ⟨Nat.le_of_ble_eq_true rfl, Nat.le_of_ble_eq_true rfl⟩ ⟨rfl, rfl⟩ (fun m3 hm => ?_)
  obtain ⟨h1, hf⟩ := hm
  have hW := hW.k hf (by omega)
  have hK := hK.k hf (by omega)
  have hL := hL.k hf (by omega)
  have hD := hD.k hf (by omega)
  have hF := hF.k hf (fun x h => by omega)
  refine z_aload_n X dX8_widen_26 rfl ?_
  refine z_iload_n X dX8_widen_27 rfl ?_
  refine z_bipush X dX8_widen_28 (by decide) ?_
  refine z_iconst X dX8_widen_30 ?_
  refine z_callVv X (As := [_, _, _]) dX8_widen_31 m_X8_add i_X8_add l_X8_144 (c_X8_add (zg E) (s := b) (b := 58) hA rfl rfl (by omega) (by omega) (by omega) (Or.inl rfl) hL h1 (b1.mono (by omega)) (b2.mono (by omega)) (Or.inl ⟨rfl, rfl⟩)) (by first | assumption | exact zbigA.o (by assumption)) rfl rfl rfl (Nat.le_of_ble_eq_true rfl) ⟨Nat.le_of_ble_eq_true rfl, Nat.le_of_ble_eq_true rfl⟩ ⟨Nat.le_of_ble_eq_true rfl, Nat.le_of_ble_eq_true rfl⟩ ⟨rfl, rfl⟩ (fun m4 hm => ?_)
  obtain ⟨hL, hf⟩ := hm
  have hK := hK.k hf (by omega)
  have hD := hD.k hf (by omega)
  have hF := hF.k hf (fun x h => by omega)
  refine z_aload_n X dX8_widen_34 rfl ?_
  refine z_bipush X dX8_widen_35 (by decide) ?_
  refine z_bipush X dX8_widen_37 (by decide) ?_
  refine z_bipush X dX8_widen_39 (by decide) ?_
  refine z_callVv X (As := [_, _, _]) dX8_widen_41 m_X8_multiply i_X8_multiply l_X8_140 (c_X8_multiply (zg E) (a := 56) (b := 54) (t := 58) hA rfl rfl rfl (by omega) (by omega) (by omega) (by omega) (by omega) hK hD bK bD (by omega)) (by first | assumption | exact zbigA.o (by assumption)) rfl rfl rfl (Nat.le_of_ble_eq_true rfl) ⟨Nat.le_of_ble_eq_true rfl, Nat.le_of_ble_eq_true rfl⟩ ⟨Nat.le_of_ble_eq_true rfl, Nat.le_of_ble_eq_true rfl⟩ ⟨rfl, rfl⟩ (fun m5 hm => ?_)
  obtain ⟨h1, hf⟩ := hm
  have hL := hL.k hf (by omega)
  have hF := hF.k hf (fun x h => by omega)
  refine z_aload_n X dX8_widen_44 rfl ?_
  refine z_iload_n X dX8_widen_45 rfl ?_
  refine z_bipush X dX8_widen_46 (by decide) ?_
  refine z_iload_n X dX8_widen_48 rfl ?_
  refine z_callVv X (As := [_, _, _]) dX8_widen_49 m_X8_add i_X8_add l_X8_144 (c_X8_add (zg E) (s := b) (b := 58) hA rfl rfl (by omega) (by omega) (by omega) hl hL h1 (b4.mono (by omega)) (b3.mono (by omega)) hu) (by first | assumption | exact zbigA.o (by assumption)) rfl rfl rfl (Nat.le_of_ble_eq_true rfl) ⟨Nat.le_of_ble_eq_true rfl, Nat.le_of_ble_eq_true rfl⟩ ⟨Nat.le_of_ble_eq_true rfl, Nat.le_of_ble_eq_true rfl⟩ ⟨rfl, rfl⟩ (fun m6 hm => ?_)
  obtain ⟨hL, hf⟩ := hm
  have hF := hF.k hf (fun x h => by omega)
  refine z_return (st := []) X rfl hQ dX8_widen_52 ⟨rfl, rfl, ?_⟩
  exact ⟨hL, hF⟩

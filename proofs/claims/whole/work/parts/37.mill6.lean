/-! ConstantMill: the falls of a constant -/
theorem zl_firstFallOf {E : zCx} (X : zOK E cX7_firstFallOf RX7 6 (some .int) k_X7_firstFallOf.2.2.2.2) {A : zA} {m : zM} {b k N : Nat} {σ : zSt} (hA : zmilA A b) (hm : zCR b m σ) (ho : zStok σ) (hk : k < 4) (hN : N ≤ 100) {P : Int → zM → Prop} (hQ : zRet E (zpi A P) 0 0) {R : Int} (hP : P R m) : ∀ (r i : Nat) (l4 l5 : Option Value), i + r = (sK σ k).1 → zfp σ (sK σ k).2 N i r = R → zW E (0, 0) A m 2 [some (vr b), some (vr (b + 133 + 4 * k)), some (vi (N : Int)), some (vi (i : Int)), l4, l5] [] := by
  obtain ⟨⟨hB, r0, r1, r2, r3, r4, r5, r6, r7, r8⟩, ⟨a1, a2, a3⟩, ⟨gG, gE, gP, gF, gT, gU⟩, hS, hD, hC⟩ := id hA
  have hc1 := (hC k hk).2
  have hc2 := hc1.1
  obtain ⟨⟨c1, c2, c3⟩, c4, c5, c6⟩ := hc1.2
  have hk4 := (ho.2.2.1 k hk).1
  obtain ⟨q1, q2⟩ := hm.2.2.1 k hk
  intro r
  induction r with
  | zero =>
    intro i l4 l5 hi hR
    refine z_iload_n X dX7_firstFallOf_2 rfl ?_
    refine z_aload_n X dX7_firstFallOf_3 rfl ?_
    refine z_getI X dX7_firstFallOf_4 f_X7_169 rfl (by first | assumption | exact zbigA.o (by assumption)) ?_
    refine z_icmp_ge X dX7_firstFallOf_7 63 (by decide) (by omega) (by omega) (fun h7 => ?_) (fun h7 => ?_)
    · refine z_bipush X dX7_firstFallOf_63 (by decide) ?_
      refine z_ireturn (st := []) X rfl hQ dX7_firstFallOf_65 ⟨rfl, _, rfl, ?_⟩
      have : R = -6 := hR.symm
      rw [this] at hP
      exact hP
    · exact absurd h7 (by omega)
  | succ r ih =>
    intro i l4 l5 hi hR
    have hpt := (ho.2.2.1 k hk).2 i (by omega)
    have hs6 := hpt.1
    have hsu := (q2 i (by omega)).1
    unfold zfp at hR
    refine z_iload_n X dX7_firstFallOf_2 rfl ?_
    refine z_aload_n X dX7_firstFallOf_3 rfl ?_
    refine z_getI X dX7_firstFallOf_4 f_X7_169 rfl (by first | assumption | exact zbigA.o (by assumption)) ?_
    refine z_icmp_ge X dX7_firstFallOf_7 63 (by decide) (by omega) (by omega) (fun h7 => ?_) (fun h7 => ?_)
    · omega
    · refine z_iload_n X dX7_firstFallOf_10 rfl ?_
      refine z_iconst X dX7_firstFallOf_11 ?_
      refine z_icmp_ge X dX7_firstFallOf_12 63 (by decide) (by omega) (by omega) (fun h12 => ?_) (fun h12 => ?_)
      · omega
      · refine z_aload_n X dX7_firstFallOf_15 rfl ?_
        refine z_aload_n X dX7_firstFallOf_16 rfl ?_
        refine z_getR X dX7_firstFallOf_17 f_X7_172 rfl (by first | assumption | exact zbigA.o (by assumption)) (by assumption) ?_
        refine z_iload_n X dX7_firstFallOf_20 rfl ?_
        refine z_iald X (i) dX7_firstFallOf_21 (by omega) (by assumption) (by omega) (by omega) ?_
        refine z_callVr X (As := [_]) dX7_firstFallOf_22 m_X7_sumAt i_X7_sumAt l_X7_61 (c_X7_sumAt (zg E) hA (by unfold zi32; omega)) (by first | assumption | exact zbigA.o (by assumption)) rfl rfl rfl (Nat.le_of_ble_eq_true rfl) ⟨Nat.le_of_ble_eq_true rfl, Nat.le_of_ble_eq_true rfl⟩ ⟨Nat.le_of_ble_eq_true rfl, Nat.le_of_ble_eq_true rfl⟩ ⟨rfl, rfl⟩ (fun g m1 hm2 => ?_)
        rcases g with _ | g
        · exact absurd hm2.2.no (by omega)
        · obtain ⟨rfl, hg⟩ := hm2
          obtain ⟨t, ht, hte, rfl⟩ := hg.yes
          obtain rfl : t = ((sK σ k).2 i).1 := by omega
          have hs1 := (hS _ ht).2
          have hs2 := hs1.1
          refine z_astore X dX7_firstFallOf_25 [_, _, _, _, _, _] (by decide) rfl ?_
          refine z_aload X dX7_firstFallOf_27 rfl ?_
          refine z_ifnonnull X dX7_firstFallOf_29 37 (by decide) ?_
          refine z_aload X dX7_firstFallOf_37 rfl ?_
          refine z_iconst X dX7_firstFallOf_39 ?_
          refine z_iconst X dX7_firstFallOf_40 ?_
          refine z_iload_n X dX7_firstFallOf_41 rfl ?_
          refine z_callVi X (As := [_, _, _]) dX7_firstFallOf_42 m_X6_firstFall i_X6_firstFall l_X7_94 (c_X6_firstFall (zg E) hs1 (hm.1 _ ht) (ho.1 _ ht).1 (ho.1 _ ht).2 0 0 N rfl rfl rfl (by omega) hN (by omega)) (by first | assumption | exact zbigA.o (by assumption)) rfl rfl rfl (Nat.le_of_ble_eq_true rfl) ⟨Nat.le_of_ble_eq_true rfl, Nat.le_of_ble_eq_true rfl⟩ ⟨Nat.le_of_ble_eq_true rfl, Nat.le_of_ble_eq_true rfl⟩ ⟨rfl, rfl⟩ (fun r9 m9 hm9 => ?_)
          obtain ⟨rfl, hr⟩ := hm9
          have hR9 := zff_bd (sC σ ((sK σ k).2 i).1) (sU σ ((sK σ k).2 i).1) (sV σ ((sK σ k).2 i).1) 0 0 N
          have hr : r9 = zfl σ ((sK σ k).2 i).1 0 0 N := hr
          have hR9 : zfl σ ((sK σ k).2 i).1 0 0 N = -6 ∨ ((0 : Nat) : Int) ≤ zfl σ ((sK σ k).2 i).1 0 0 N ∧ zfl σ ((sK σ k).2 i).1 0 0 N < ((0 : Nat) : Int) + (N : Int) := hR9
          rw [← hr] at hR hR9
          refine z_istore X dX7_firstFallOf_45 (fun y => [_, _, _, _, _, some (vi y)]) (by decide) (fun _ => rfl) (fun q hq => ?_)
          obtain rfl : q = r9 := by omega
          refine z_iload X dX7_firstFallOf_47 rfl ?_
          refine z_bipush X dX7_firstFallOf_49 (by decide) ?_
          refine z_icmp_eq X dX7_firstFallOf_51 57 (by decide) (by omega) (by omega) (fun h51 => ?_) (fun h51 => ?_)
          · rw [if_neg (by omega)] at hR
            refine z_iinc X dX7_firstFallOf_57 rfl (fun y => [_, _, _, some (vi y), _, _]) (fun _ => rfl) (fun x hx => ?_)
            obtain rfl : x = ((i + 1 : Nat) : Int) := by omega
            refine z_goto X dX7_firstFallOf_60 2 (by decide) ?_
            exact ih (i + 1) _ _ (by omega) hR
          · refine z_iload X dX7_firstFallOf_54 rfl ?_
            refine z_ireturn (st := []) X rfl hQ dX7_firstFallOf_56 ⟨rfl, _, rfl, ?_⟩
            rw [if_pos (by omega)] at hR
            rw [hR]
            exact hP
theorem c_X7_firstFallOf (G : zG) {A : zA} {m : zM} {b k N : Nat} {σ : zSt} {n : Int} (hA : zmilA A b) (hm : zCR b m σ) (ho : zStok σ) (hk : k < 4) (hn : n = (N : Int)) (hN : N ≤ 100) : zMet G k_X7_firstFallOf [vr b, vr (b + 133 + 4 * k), vi n] A m (zpi A (fun r m' => m = m' ∧ r = zfc σ k N)) := by
  subst hn
  obtain ⟨⟨hB, r0, r1, r2, r3, r4, r5, r6, r7, r8⟩, ⟨a1, a2, a3⟩, ⟨gG, gE, gP, gF, gT, gU⟩, hS, hD, hC⟩ := id hA
  refine zMet.of RX7 rfl (by decide +kernel) (Nat.le_of_ble_eq_true rfl) [some (vr b), some (vr (b + 133 + 4 * k)), some (vi (N : Int)), none, none, none] rfl (fun E hG X hQ hNm => ?_)
  subst hG
  refine z_iconst X dX7_firstFallOf_0 ?_
  refine z_istore_n X dX7_firstFallOf_1 (fun y => [_, _, _, some (vi y), _, _]) (by decide) (fun _ => rfl) (fun x3_1 hx3_1 => ?_)
  subst hx3_1
  exact zl_firstFallOf X hA hm ho hk hN hQ ⟨rfl, rfl⟩ (sK σ k).1 0 none none (by omega) rfl
theorem zff_no {c : Nat → Nat → Int} {u v : Int} {st : Nat} : ∀ (n k : Nat), zff c u v st k n = -6 ↔ ∀ j, k ≤ j → j < k + n → ¬ zfalls c u v st j
  | 0, k => ⟨fun _ j h1 h2 => absurd h2 (by omega), fun _ => rfl⟩
  | n + 1, k => by
    unfold zff
    by_cases h : zfalls c u v st k
    · rw [if_pos h]
      exact ⟨fun h1 => absurd h1 (by omega), fun h1 => absurd h (h1 k (by omega) (by omega))⟩
    · rw [if_neg h, zff_no n (k + 1)]
      refine ⟨fun h1 j h2 h3 => ?_, fun h1 j h2 h3 => h1 j (by omega) (by omega)⟩
      by_cases hj : j = k
      · rw [hj]; exact h
      · exact h1 j (by omega) (by omega)
theorem zff_yes {c : Nat → Nat → Int} {u v : Int} {st : Nat} : ∀ (n k f : Nat), zff c u v st k n = (f : Int) → zfalls c u v st f ∧ k ≤ f ∧ f < k + n ∧ ∀ j, k ≤ j → j < f → ¬ zfalls c u v st j
  | 0, k, f, h => by unfold zff at h; omega
  | n + 1, k, f, h => by
    unfold zff at h
    by_cases h0 : zfalls c u v st k
    · rw [if_pos h0] at h
      obtain rfl : k = f := by omega
      exact ⟨h0, by omega, by omega, fun j h1 h2 => absurd h2 (by omega)⟩
    · rw [if_neg h0] at h
      obtain ⟨g1, g2, g3, g4⟩ := zff_yes n (k + 1) f h
      refine ⟨g1, by omega, by omega, fun j h1 h2 => ?_⟩
      by_cases hj : j = k
      · rw [hj]; exact h0
      · exact g4 j (by omega) h2
theorem zfp_no {σ : zSt} {ps : Nat → zPt} {N : Nat} : ∀ (n i : Nat), zfp σ ps N i n = -6 ↔ ∀ j, i ≤ j → j < i + n → zfl σ (ps j).1 0 0 N = -6
  | 0, i => ⟨fun _ j h1 h2 => absurd h2 (by omega), fun _ => rfl⟩
  | n + 1, i => by
    unfold zfp
    by_cases h : zfl σ (ps i).1 0 0 N = -6
    · rw [if_neg (not_not_intro h), zfp_no n (i + 1)]
      refine ⟨fun h1 j h2 h3 => ?_, fun h1 j h2 h3 => h1 j (by omega) (by omega)⟩
      by_cases hj : j = i
      · rw [hj]; exact h
      · exact h1 j (by omega) (by omega)
    · rw [if_pos h]
      exact ⟨fun h1 => absurd h1 h, fun h1 => h1 i (by omega) (by omega)⟩
theorem zfl_mono {σ : zSt} {s N M : Nat} (h : zfl σ s 0 0 N = -6) (hM : M ≤ N) : zfl σ s 0 0 M = -6 := (zff_no M 0).mpr (fun j h1 h2 => (zff_no N 0).mp h j h1 (by omega))
theorem zfc_mono {σ : zSt} {c N M : Nat} (h : zfc σ c N = -6) (hM : M ≤ N) : zfc σ c M = -6 := (zfp_no _ 0).mpr (fun j h1 h2 => zfl_mono ((zfp_no _ 0).mp h j h1 h2) hM)
/-- M terms at most, ahead of the i-th part -/
def zmst (σ : zSt) (ps : Nat → zPt) (M i : Nat) : Prop := M ≤ 100 ∧ (∀ j, j < i → zfl σ (ps j).1 0 0 M = -6) ∧ (M < 100 → ∃ j, j < i ∧ zfl σ (ps j).1 0 0 (M + 1) ≠ -6)
theorem zl_mostTermsOf {E : zCx} (X : zOK E cX7_mostTermsOf RX7 6 (some .int) k_X7_mostTermsOf.2.2.2.2) {A : zA} {m : zM} {b k : Nat} {σ : zSt} (hA : zmilA A b) (hm : zCR b m σ) (ho : zStok σ) (hk : k < 4) {P : Int → zM → Prop} (hQ : zRet E (zpi A P) 0 0) (hP : ∀ M : Nat, zmst σ (sK σ k).2 M (sK σ k).1 → P (M : Int) m) : ∀ (r i M : Nat) (l4 l5 : Option Value), i + r = (sK σ k).1 → zmst σ (sK σ k).2 M i → zW E (0, 0) A m 5 [some (vr b), some (vr (b + 133 + 4 * k)), some (vi (M : Int)), some (vi (i : Int)), l4, l5] [] := by
  obtain ⟨⟨hB, r0, r1, r2, r3, r4, r5, r6, r7, r8⟩, ⟨a1, a2, a3⟩, ⟨gG, gE, gP, gF, gT, gU⟩, hS, hD, hC⟩ := id hA
  have hc1 := (hC k hk).2
  have hc2 := hc1.1
  obtain ⟨⟨c1, c2, c3⟩, c4, c5, c6⟩ := hc1.2
  have hk4 := (ho.2.2.1 k hk).1
  obtain ⟨q1, q2⟩ := hm.2.2.1 k hk
  intro r
  induction r with
  | zero =>
    intro i M l4 l5 hi hM
    obtain rfl : i = (sK σ k).1 := by omega
    have hM1 := hM.1
    refine z_iload_n X dX7_mostTermsOf_5 rfl ?_
    refine z_aload_n X dX7_mostTermsOf_6 rfl ?_
    refine z_getI X dX7_mostTermsOf_7 f_X7_169 rfl (by first | assumption | exact zbigA.o (by assumption)) ?_
    refine z_icmp_ge X dX7_mostTermsOf_10 66 (by decide) (by omega) (by omega) (fun h10 => ?_) (fun h10 => ?_)
    · refine z_iload_n X dX7_mostTermsOf_66 rfl ?_
      refine z_ireturn (st := []) X rfl hQ dX7_mostTermsOf_67 ⟨rfl, _, rfl, ?_⟩
      exact hP M hM
    · exact absurd h10 (by omega)
  | succ r ih =>
    intro i M l4 l5 hi hM
    have hpt := (ho.2.2.1 k hk).2 i (by omega)
    have hs6 := hpt.1
    have hsu := (q2 i (by omega)).1
    have hM1 := hM.1
    refine z_iload_n X dX7_mostTermsOf_5 rfl ?_
    refine z_aload_n X dX7_mostTermsOf_6 rfl ?_
    refine z_getI X dX7_mostTermsOf_7 f_X7_169 rfl (by first | assumption | exact zbigA.o (by assumption)) ?_
    refine z_icmp_ge X dX7_mostTermsOf_10 66 (by decide) (by omega) (by omega) (fun h10 => ?_) (fun h10 => ?_)
    · omega
    · refine z_iload_n X dX7_mostTermsOf_13 rfl ?_
      refine z_iconst X dX7_mostTermsOf_14 ?_
      refine z_icmp_ge X dX7_mostTermsOf_15 66 (by decide) (by omega) (by omega) (fun h15 => ?_) (fun h15 => ?_)
      · omega
      · refine z_aload_n X dX7_mostTermsOf_18 rfl ?_
        refine z_aload_n X dX7_mostTermsOf_19 rfl ?_
        refine z_getR X dX7_mostTermsOf_20 f_X7_172 rfl (by first | assumption | exact zbigA.o (by assumption)) (by assumption) ?_
        refine z_iload_n X dX7_mostTermsOf_23 rfl ?_
        refine z_iald X (i) dX7_mostTermsOf_24 (by omega) (by assumption) (by omega) (by omega) ?_
        refine z_callVr X (As := [_]) dX7_mostTermsOf_25 m_X7_sumAt i_X7_sumAt l_X7_61 (c_X7_sumAt (zg E) hA (by unfold zi32; omega)) (by first | assumption | exact zbigA.o (by assumption)) rfl rfl rfl (Nat.le_of_ble_eq_true rfl) ⟨Nat.le_of_ble_eq_true rfl, Nat.le_of_ble_eq_true rfl⟩ ⟨Nat.le_of_ble_eq_true rfl, Nat.le_of_ble_eq_true rfl⟩ ⟨rfl, rfl⟩ (fun g m1 hm2 => ?_)
        rcases g with _ | g
        · exact absurd hm2.2.no (by omega)
        · obtain ⟨rfl, hg⟩ := hm2
          obtain ⟨t, ht, hte, rfl⟩ := hg.yes
          obtain rfl : t = ((sK σ k).2 i).1 := by omega
          have hs1 := (hS _ ht).2
          have hs2 := hs1.1
          refine z_astore X dX7_mostTermsOf_28 [_, _, _, _, _, _] (by decide) rfl ?_
          refine z_aload X dX7_mostTermsOf_30 rfl ?_
          refine z_ifnonnull X dX7_mostTermsOf_32 40 (by decide) ?_
          refine z_aload X dX7_mostTermsOf_40 rfl ?_
          refine z_iconst X dX7_mostTermsOf_42 ?_
          refine z_iconst X dX7_mostTermsOf_43 ?_
          refine z_iload_n X dX7_mostTermsOf_44 rfl ?_
          refine z_callVi X (As := [_, _, _]) dX7_mostTermsOf_45 m_X6_firstFall i_X6_firstFall l_X7_94 (c_X6_firstFall (zg E) hs1 (hm.1 _ ht) (ho.1 _ ht).1 (ho.1 _ ht).2 0 0 M rfl rfl rfl (by omega) hM1 (by omega)) (by first | assumption | exact zbigA.o (by assumption)) rfl rfl rfl (Nat.le_of_ble_eq_true rfl) ⟨Nat.le_of_ble_eq_true rfl, Nat.le_of_ble_eq_true rfl⟩ ⟨Nat.le_of_ble_eq_true rfl, Nat.le_of_ble_eq_true rfl⟩ ⟨rfl, rfl⟩ (fun r9 m9 hm9 => ?_)
          obtain ⟨rfl, hr⟩ := hm9
          have hr : r9 = zfl σ ((sK σ k).2 i).1 0 0 M := hr
          have hR9 : zfl σ ((sK σ k).2 i).1 0 0 M = -6 ∨ ((0 : Nat) : Int) ≤ zfl σ ((sK σ k).2 i).1 0 0 M ∧ zfl σ ((sK σ k).2 i).1 0 0 M < ((0 : Nat) : Int) + (M : Int) := zff_bd _ _ _ 0 0 M
          rw [← hr] at hR9
          refine z_istore X dX7_mostTermsOf_48 (fun y => [_, _, _, _, _, some (vi y)]) (by decide) (fun _ => rfl) (fun q hq => ?_)
          obtain rfl : q = r9 := by omega
          refine z_iload X dX7_mostTermsOf_50 rfl ?_
          refine z_bipush X dX7_mostTermsOf_52 (by decide) ?_
          refine z_icmp_eq X dX7_mostTermsOf_54 60 (by decide) (by omega) (by omega) (fun h54 => ?_) (fun h54 => ?_)
          · refine z_iinc X dX7_mostTermsOf_60 rfl (fun y => [_, _, _, some (vi y), _, _]) (fun _ => rfl) (fun x hx => ?_)
            obtain rfl : x = ((i + 1 : Nat) : Int) := by omega
            refine z_goto X dX7_mostTermsOf_63 5 (by decide) ?_
            refine ih (i + 1) M _ _ (by omega) ⟨hM1, fun j hj => ?_, fun h => ?_⟩
            · by_cases hji : j = i
              · rw [hji]; omega
              · exact hM.2.1 j (by omega)
            · obtain ⟨j, h1, h2⟩ := hM.2.2 h
              exact ⟨j, by omega, h2⟩
          · refine z_iload X dX7_mostTermsOf_57 rfl ?_
            refine z_istore_n X dX7_mostTermsOf_59 (fun y => [_, _, some (vi y), _, _, _]) (by decide) (fun _ => rfl) (fun y hy => ?_)
            refine z_iinc X dX7_mostTermsOf_60 rfl (fun y => [_, _, _, some (vi y), _, _]) (fun _ => rfl) (fun x hx => ?_)
            obtain rfl : x = ((i + 1 : Nat) : Int) := by omega
            obtain ⟨f, rfl⟩ : ∃ f : Nat, y = (f : Int) := ⟨q.toNat, by omega⟩
            have hf : zfl σ ((sK σ k).2 i).1 0 0 M = (f : Int) := by omega
            obtain ⟨u1, u2, u3, u4⟩ := zff_yes _ _ _ hf
            refine z_goto X dX7_mostTermsOf_63 5 (by decide) ?_
            refine ih (i + 1) f _ _ (by omega) ⟨by omega, fun j hj => ?_, fun h => ⟨i, by omega, fun h2 => ?_⟩⟩
            · by_cases hji : j = i
              · rw [hji]; exact (zff_no f 0).mpr (fun j h1 h2 => u4 j h1 (by omega))
              · exact zfl_mono (hM.2.1 j (by omega)) (by omega)
            · exact (zff_no (f + 1) 0).mp h2 f (by omega) (by omega) u1
theorem c_X7_mostTermsOf (G : zG) {A : zA} {m : zM} {b k : Nat} {σ : zSt} (hA : zmilA A b) (hm : zCR b m σ) (ho : zStok σ) (hk : k < 4) : zMet G k_X7_mostTermsOf [vr b, vr (b + 133 + 4 * k)] A m (zpi A (fun r m' => m = m' ∧ ∃ M : Nat, r = (M : Int) ∧ M ≤ 100 ∧ zfc σ k M = -6 ∧ (M < 100 → zfc σ k (M + 1) ≠ -6))) := by
  obtain ⟨⟨hB, r0, r1, r2, r3, r4, r5, r6, r7, r8⟩, ⟨a1, a2, a3⟩, ⟨gG, gE, gP, gF, gT, gU⟩, hS, hD, hC⟩ := id hA
  refine zMet.of RX7 rfl (by decide +kernel) (Nat.le_of_ble_eq_true rfl) [some (vr b), some (vr (b + 133 + 4 * k)), none, none, none, none] rfl (fun E hG X hQ hNm => ?_)
  subst hG
  refine z_bipush X dX7_mostTermsOf_0 (by decide) ?_
  refine z_istore_n X dX7_mostTermsOf_2 (fun y => [_, _, some (vi y), _, _, _]) (by decide) (fun _ => rfl) (fun x2_2 hx2_2 => ?_)
  subst hx2_2
  refine z_iconst X dX7_mostTermsOf_3 ?_
  refine z_istore_n X dX7_mostTermsOf_4 (fun y => [_, _, _, some (vi y), _, _]) (by decide) (fun _ => rfl) (fun x3_4 hx3_4 => ?_)
  subst hx3_4
  refine zl_mostTermsOf X hA hm ho hk hQ (fun M h => ⟨rfl, M, rfl, h.1, (zfp_no _ 0).mpr (fun j _ h2 => h.2.1 j (by omega)), fun h0 h1 => ?_⟩) (sK σ k).1 0 100 none none (by omega) ⟨by omega, fun j hj => absurd hj (by omega), fun h => absurd h (by omega)⟩
  obtain ⟨j, g1, g2⟩ := h.2.2 h0
  exact g2 ((zfp_no _ 0).mp h1 j (by omega) (by omega))

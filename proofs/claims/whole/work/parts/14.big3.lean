/-! Big: addSize, putDifference, compareSizes -/
def zdg (f : Nat → Int) (n : Nat) : Nat → Int := fun i => if i < n then f i else 0
theorem zsum_dg {b : Int} {f : Nat → Int} {n e : Nat} (h : n ≤ e) : zsum b (zdg f n) e = zsum b f n := by
  obtain ⟨d, rfl⟩ := Nat.exists_eq_add_of_le h
  rw [zsum_ext d (fun i h1 h2 => by unfold zdg; rw [if_neg (by omega)])]
  exact zsum_congr (fun i hi => by unfold zdg; rw [if_pos hi])
theorem zstep_add {S U V c c' P x a b' d b : Int} (h1 : S + c * P = U + V) (h2 : x = c + a + b') (h3 : x = d + c' * b) : S + d * P + c' * (P * b) = (U + a * P) + (V + b' * P) := by grind
theorem zstep_sub {S U V c c' P x a b' d b : Int} (h1 : S + c * P = U - V) (h2 : x = a + c - b') (h3 : x = d + c' * b) : S + d * P + c' * (P * b) = (U + a * P) - (V + b' * P) := by grind
theorem zl_addSize {E : zCx} {rm : Room} {cs : Nat × Nat} {A : zA} (X : zOK E cX0_addSize RX0 6 none rm) {q N x M n k e : Nat} (hA : zbigA A q N) (hB : zbigA A x M) (hne : x ≠ q) {m0 : zM} (hq : zraw m0 q N n) (hx : zraw m0 x M k) (he : e = max n k) (heN : e ≤ N) : ∀ (r i : Nat) (m : zM) (c : Int) (l5 : Option Value), i + r = e → (∀ a j, a ≠ q + 1 → m a j = m0 a j) → (∀ j, i ≤ j → m (q + 1) j = m0 (q + 1) j) → (∀ j, j < i → 0 ≤ m (q + 1) j ∧ m (q + 1) j < 1073741824) → 0 ≤ c → c ≤ 1 → zsum 1073741824 (m (q + 1)) i + c * 1073741824 ^ i = zsum 1073741824 (zdg (m0 (q + 1)) n) i + zsum 1073741824 (zdg (m0 (x + 1)) k) i →
    (∀ (m' : zM) (c : Int) (l5 : Option Value), (∀ a j, a ≠ q + 1 → m' a j = m0 a j) → (∀ j, j < e → 0 ≤ m' (q + 1) j ∧ m' (q + 1) j < 1073741824) → 0 ≤ c → c ≤ 1 → zsum 1073741824 (m' (q + 1)) e + c * 1073741824 ^ e = zsum 1073741824 (zdg (m0 (q + 1)) n) e + zsum 1073741824 (zdg (m0 (x + 1)) k) e → zW E cs A m' 108 [some (vr q), some (vr x), some (vi (e : Int)), some (vi c), some (vi (e : Int)), l5] []) → zW E cs A m 25 [some (vr q), some (vr x), some (vi (e : Int)), some (vi c), some (vi (i : Int)), l5] [] := by
  obtain ⟨hx1, hx2⟩ := zbigA.ap hA hB hne
  obtain ⟨hA1, hA2, hA3, hN, hN2⟩ := id hA
  obtain ⟨hB1, hB2, hB3, hM, hM2⟩ := id hB
  obtain ⟨q1, q2, q3⟩ := hq
  obtain ⟨x1, x2, x3⟩ := hx
  intro r
  induction r with
  | zero =>
    intro i m c l5 hi h1 h2 h3 hc0 hc1 hs K
    obtain rfl : i = e := by omega
    refine z_iload X dX0_addSize_25 rfl ?_
    refine z_iload_n X dX0_addSize_27 rfl ?_
    refine z_icmp_ge X dX0_addSize_28 108 (by decide) (by omega) (by omega) (fun h28 => ?_) (fun h28 => ?_)
    · exact K m c l5 h1 h3 hc0 hc1 hs
    · exact absurd h28 (by omega)
  | succ r ih =>
    intro i m c l5 hi h1 h2 h3 hc0 hc1 hs K
    have e1 : m q 1 = (n : Int) := (h1 q 1 (by omega)).trans q1
    have e2 : m x 1 = (k : Int) := (h1 x 1 (by omega)).trans x1
    have e3 := h2 i (by omega)
    have e4 := h1 (x + 1) i (by omega)
    have e5 := q3 i
    have e6 := x3 i
    refine z_iload X dX0_addSize_25 rfl ?_
    refine z_iload_n X dX0_addSize_27 rfl ?_
    refine z_icmp_ge X dX0_addSize_28 108 (by decide) (by omega) (by omega) (fun h28 => ?_) (fun h28 => ?_)
    · exact absurd h28 (by omega)
    · refine z_iload_n X dX0_addSize_31 rfl ?_
      refine z_istore X dX0_addSize_32 (fun y => [_, _, _, _, _, some (vi y)]) (by decide) (fun _ => rfl) (fun y0 hy0 => ?_)
      refine z_iload X dX0_addSize_34 rfl ?_
      refine z_iload X dX0_addSize_36 rfl ?_
      refine z_aload_n X dX0_addSize_38 rfl ?_
      refine z_getI X dX0_addSize_39 f_X0_15 rfl (by assumption) ?_
      refine z_icmp_ge X dX0_addSize_42 55 (by decide) (by omega) (by omega) (fun h42 => ?_) (fun h42 => ?_)
      · refine z_iconst X dX0_addSize_55 ?_
        refine z_iadd X dX0_addSize_56 ?_
        refine z_istore X dX0_addSize_57 (fun y => [_, _, _, _, _, some (vi y)]) (by decide) (fun _ => rfl) (fun y1 hy1 => ?_)
        have e8 : zdg (m0 (q + 1)) n i = m (q + 1) i ∨ zdg (m0 (q + 1)) n i = 0 := by unfold zdg; split <;> omega
        refine z_iload X dX0_addSize_59 rfl ?_
        refine z_iload X dX0_addSize_61 rfl ?_
        refine z_aload_n X dX0_addSize_63 rfl ?_
        refine z_getI X dX0_addSize_64 f_X0_15 rfl (by assumption) ?_
        refine z_icmp_ge X dX0_addSize_67 80 (by decide) (by omega) (by omega) (fun h67 => ?_) (fun h67 => ?_)
        · refine z_iconst X dX0_addSize_80 ?_
          refine z_iadd X dX0_addSize_81 ?_
          refine z_istore X dX0_addSize_82 (fun y => [_, _, _, _, _, some (vi y)]) (by decide) (fun _ => rfl) (fun y2 hy2 => ?_)
          have e9 : 0 ≤ y2 ∧ y2 < 2147483648 := by omega
          refine z_aload_n X dX0_addSize_84 rfl ?_
          refine z_getR X dX0_addSize_85 f_X0_9 rfl (by assumption) (by assumption) ?_
          refine z_iload X dX0_addSize_88 rfl ?_
          refine z_iload X dX0_addSize_90 rfl ?_
          refine z_ldc X dX0_addSize_92 q_X0_66 (1073741823) (by decide) ?_
          refine z_iand X dX0_addSize_94 30 (by omega) (by decide) 1073741824 (by decide) ?_
          refine z_iast X (_) dX0_addSize_95 rfl (by assumption) (by omega) (by omega) ?_
          refine z_iload X dX0_addSize_96 rfl ?_
          refine z_bipush X dX0_addSize_98 (by decide) ?_
          refine z_iushr X dX0_addSize_100 30 1073741824 rfl (by decide) (by decide) (by omega) ?_
          refine z_istore_n X dX0_addSize_101 (fun y => [_, _, _, some (vi y), _, _]) (by decide) (fun _ => rfl) (fun c2 hc2 => ?_)
          refine z_iinc X dX0_addSize_102 rfl (fun y => [_, _, _, _, some (vi y), _]) (fun _ => rfl) (fun x4_102 hx4_102 => ?_)
          obtain rfl : x4_102 = ((i + 1 : Nat) : Int) := by omega
          have hl : y2 = c + zdg (m0 (q + 1)) n i + zdg (m0 (x + 1)) k i := by unfold zdg; (repeat' split) <;> omega
          refine z_goto X dX0_addSize_105 25 (by decide) ?_
          refine ih (i + 1) _ c2 _ (by omega) (fun a j ha => by rw [zms_nq _ _ _ _ _ ha]; exact h1 a j ha) (fun j hj => by rw [zms_nk _ _ _ _ _ (by omega)]; exact h2 j (by omega)) (fun j hj => ?_) (by omega) (by omega) ?_ K
          · by_cases hji : j = i
            · rw [hji, zms_same]; omega
            · rw [zms_nk _ _ _ _ _ hji]; exact h3 j (by omega)
          · have e7 : zsum 1073741824 (zms m (q + 1) i (y2 % 1073741824) (q + 1)) i = zsum 1073741824 (m (q + 1)) i := zsum_congr (fun j hj => zms_nk _ _ _ _ _ (by omega))
            rw [zsum_s, zsum_s, zsum_s, zms_same, e7, Int.pow_succ]
            exact zstep_add hs hl (by omega)
        · refine z_aload_n X dX0_addSize_70 rfl ?_
          refine z_getR X dX0_addSize_71 f_X0_9 rfl (by assumption) (by assumption) ?_
          refine z_iload X dX0_addSize_74 rfl ?_
          refine z_iald X (_) dX0_addSize_76 rfl (by assumption) (by omega) (by omega) ?_
          refine z_goto X dX0_addSize_77 81 (by decide) ?_
          refine z_iadd X dX0_addSize_81 ?_
          refine z_istore X dX0_addSize_82 (fun y => [_, _, _, _, _, some (vi y)]) (by decide) (fun _ => rfl) (fun y2 hy2 => ?_)
          have e9 : 0 ≤ y2 ∧ y2 < 2147483648 := by omega
          refine z_aload_n X dX0_addSize_84 rfl ?_
          refine z_getR X dX0_addSize_85 f_X0_9 rfl (by assumption) (by assumption) ?_
          refine z_iload X dX0_addSize_88 rfl ?_
          refine z_iload X dX0_addSize_90 rfl ?_
          refine z_ldc X dX0_addSize_92 q_X0_66 (1073741823) (by decide) ?_
          refine z_iand X dX0_addSize_94 30 (by omega) (by decide) 1073741824 (by decide) ?_
          refine z_iast X (_) dX0_addSize_95 rfl (by assumption) (by omega) (by omega) ?_
          refine z_iload X dX0_addSize_96 rfl ?_
          refine z_bipush X dX0_addSize_98 (by decide) ?_
          refine z_iushr X dX0_addSize_100 30 1073741824 rfl (by decide) (by decide) (by omega) ?_
          refine z_istore_n X dX0_addSize_101 (fun y => [_, _, _, some (vi y), _, _]) (by decide) (fun _ => rfl) (fun c2 hc2 => ?_)
          refine z_iinc X dX0_addSize_102 rfl (fun y => [_, _, _, _, some (vi y), _]) (fun _ => rfl) (fun x4_102 hx4_102 => ?_)
          obtain rfl : x4_102 = ((i + 1 : Nat) : Int) := by omega
          have hl : y2 = c + zdg (m0 (q + 1)) n i + zdg (m0 (x + 1)) k i := by unfold zdg; (repeat' split) <;> omega
          refine z_goto X dX0_addSize_105 25 (by decide) ?_
          refine ih (i + 1) _ c2 _ (by omega) (fun a j ha => by rw [zms_nq _ _ _ _ _ ha]; exact h1 a j ha) (fun j hj => by rw [zms_nk _ _ _ _ _ (by omega)]; exact h2 j (by omega)) (fun j hj => ?_) (by omega) (by omega) ?_ K
          · by_cases hji : j = i
            · rw [hji, zms_same]; omega
            · rw [zms_nk _ _ _ _ _ hji]; exact h3 j (by omega)
          · have e7 : zsum 1073741824 (zms m (q + 1) i (y2 % 1073741824) (q + 1)) i = zsum 1073741824 (m (q + 1)) i := zsum_congr (fun j hj => zms_nk _ _ _ _ _ (by omega))
            rw [zsum_s, zsum_s, zsum_s, zms_same, e7, Int.pow_succ]
            exact zstep_add hs hl (by omega)
      · refine z_aload_n X dX0_addSize_45 rfl ?_
        refine z_getR X dX0_addSize_46 f_X0_9 rfl (by assumption) (by assumption) ?_
        refine z_iload X dX0_addSize_49 rfl ?_
        refine z_iald X (_) dX0_addSize_51 rfl (by assumption) (by omega) (by omega) ?_
        refine z_goto X dX0_addSize_52 56 (by decide) ?_
        refine z_iadd X dX0_addSize_56 ?_
        refine z_istore X dX0_addSize_57 (fun y => [_, _, _, _, _, some (vi y)]) (by decide) (fun _ => rfl) (fun y1 hy1 => ?_)
        have e8 : zdg (m0 (q + 1)) n i = m (q + 1) i ∨ zdg (m0 (q + 1)) n i = 0 := by unfold zdg; split <;> omega
        refine z_iload X dX0_addSize_59 rfl ?_
        refine z_iload X dX0_addSize_61 rfl ?_
        refine z_aload_n X dX0_addSize_63 rfl ?_
        refine z_getI X dX0_addSize_64 f_X0_15 rfl (by assumption) ?_
        refine z_icmp_ge X dX0_addSize_67 80 (by decide) (by omega) (by omega) (fun h67 => ?_) (fun h67 => ?_)
        · refine z_iconst X dX0_addSize_80 ?_
          refine z_iadd X dX0_addSize_81 ?_
          refine z_istore X dX0_addSize_82 (fun y => [_, _, _, _, _, some (vi y)]) (by decide) (fun _ => rfl) (fun y2 hy2 => ?_)
          have e9 : 0 ≤ y2 ∧ y2 < 2147483648 := by omega
          refine z_aload_n X dX0_addSize_84 rfl ?_
          refine z_getR X dX0_addSize_85 f_X0_9 rfl (by assumption) (by assumption) ?_
          refine z_iload X dX0_addSize_88 rfl ?_
          refine z_iload X dX0_addSize_90 rfl ?_
          refine z_ldc X dX0_addSize_92 q_X0_66 (1073741823) (by decide) ?_
          refine z_iand X dX0_addSize_94 30 (by omega) (by decide) 1073741824 (by decide) ?_
          refine z_iast X (_) dX0_addSize_95 rfl (by assumption) (by omega) (by omega) ?_
          refine z_iload X dX0_addSize_96 rfl ?_
          refine z_bipush X dX0_addSize_98 (by decide) ?_
          refine z_iushr X dX0_addSize_100 30 1073741824 rfl (by decide) (by decide) (by omega) ?_
          refine z_istore_n X dX0_addSize_101 (fun y => [_, _, _, some (vi y), _, _]) (by decide) (fun _ => rfl) (fun c2 hc2 => ?_)
          refine z_iinc X dX0_addSize_102 rfl (fun y => [_, _, _, _, some (vi y), _]) (fun _ => rfl) (fun x4_102 hx4_102 => ?_)
          obtain rfl : x4_102 = ((i + 1 : Nat) : Int) := by omega
          have hl : y2 = c + zdg (m0 (q + 1)) n i + zdg (m0 (x + 1)) k i := by unfold zdg; (repeat' split) <;> omega
          refine z_goto X dX0_addSize_105 25 (by decide) ?_
          refine ih (i + 1) _ c2 _ (by omega) (fun a j ha => by rw [zms_nq _ _ _ _ _ ha]; exact h1 a j ha) (fun j hj => by rw [zms_nk _ _ _ _ _ (by omega)]; exact h2 j (by omega)) (fun j hj => ?_) (by omega) (by omega) ?_ K
          · by_cases hji : j = i
            · rw [hji, zms_same]; omega
            · rw [zms_nk _ _ _ _ _ hji]; exact h3 j (by omega)
          · have e7 : zsum 1073741824 (zms m (q + 1) i (y2 % 1073741824) (q + 1)) i = zsum 1073741824 (m (q + 1)) i := zsum_congr (fun j hj => zms_nk _ _ _ _ _ (by omega))
            rw [zsum_s, zsum_s, zsum_s, zms_same, e7, Int.pow_succ]
            exact zstep_add hs hl (by omega)
        · refine z_aload_n X dX0_addSize_70 rfl ?_
          refine z_getR X dX0_addSize_71 f_X0_9 rfl (by assumption) (by assumption) ?_
          refine z_iload X dX0_addSize_74 rfl ?_
          refine z_iald X (_) dX0_addSize_76 rfl (by assumption) (by omega) (by omega) ?_
          refine z_goto X dX0_addSize_77 81 (by decide) ?_
          refine z_iadd X dX0_addSize_81 ?_
          refine z_istore X dX0_addSize_82 (fun y => [_, _, _, _, _, some (vi y)]) (by decide) (fun _ => rfl) (fun y2 hy2 => ?_)
          have e9 : 0 ≤ y2 ∧ y2 < 2147483648 := by omega
          refine z_aload_n X dX0_addSize_84 rfl ?_
          refine z_getR X dX0_addSize_85 f_X0_9 rfl (by assumption) (by assumption) ?_
          refine z_iload X dX0_addSize_88 rfl ?_
          refine z_iload X dX0_addSize_90 rfl ?_
          refine z_ldc X dX0_addSize_92 q_X0_66 (1073741823) (by decide) ?_
          refine z_iand X dX0_addSize_94 30 (by omega) (by decide) 1073741824 (by decide) ?_
          refine z_iast X (_) dX0_addSize_95 rfl (by assumption) (by omega) (by omega) ?_
          refine z_iload X dX0_addSize_96 rfl ?_
          refine z_bipush X dX0_addSize_98 (by decide) ?_
          refine z_iushr X dX0_addSize_100 30 1073741824 rfl (by decide) (by decide) (by omega) ?_
          refine z_istore_n X dX0_addSize_101 (fun y => [_, _, _, some (vi y), _, _]) (by decide) (fun _ => rfl) (fun c2 hc2 => ?_)
          refine z_iinc X dX0_addSize_102 rfl (fun y => [_, _, _, _, some (vi y), _]) (fun _ => rfl) (fun x4_102 hx4_102 => ?_)
          obtain rfl : x4_102 = ((i + 1 : Nat) : Int) := by omega
          have hl : y2 = c + zdg (m0 (q + 1)) n i + zdg (m0 (x + 1)) k i := by unfold zdg; (repeat' split) <;> omega
          refine z_goto X dX0_addSize_105 25 (by decide) ?_
          refine ih (i + 1) _ c2 _ (by omega) (fun a j ha => by rw [zms_nq _ _ _ _ _ ha]; exact h1 a j ha) (fun j hj => by rw [zms_nk _ _ _ _ _ (by omega)]; exact h2 j (by omega)) (fun j hj => ?_) (by omega) (by omega) ?_ K
          · by_cases hji : j = i
            · rw [hji, zms_same]; omega
            · rw [zms_nk _ _ _ _ _ hji]; exact h3 j (by omega)
          · have e7 : zsum 1073741824 (zms m (q + 1) i (y2 % 1073741824) (q + 1)) i = zsum 1073741824 (m (q + 1)) i := zsum_congr (fun j hj => zms_nk _ _ _ _ _ (by omega))
            rw [zsum_s, zsum_s, zsum_s, zms_same, e7, Int.pow_succ]
            exact zstep_add hs hl (by omega)
theorem c_X0_addSize (G : zG) {A : zA} {m : zM} {q N x M n k : Nat} (hA : zbigA A q N) (hB : zbigA A x M) (hne : x ≠ q) (hq : zraw m q N n) (hx : zraw m x M k) (hk : k ≤ N) (hfit : zsum 1073741824 (m (q + 1)) n + zsum 1073741824 (m (x + 1)) k < 1073741824 ^ N) : zMet G k_X0_addSize [vr q, vr x] A m (zpv A (fun m' => (∃ n', zraw m' q N n' ∧ zsum 1073741824 (m' (q + 1)) n' = zsum 1073741824 (m (q + 1)) n + zsum 1073741824 (m (x + 1)) k) ∧ m' q 2 = m q 2 ∧ zfr m m' q)) := by
  obtain ⟨hx1, hx2⟩ := zbigA.ap hA hB hne
  obtain ⟨hA1, hA2, hA3, hN, hN2⟩ := id hA
  obtain ⟨hB1, hB2, hB3, hM, hM2⟩ := id hB
  obtain ⟨q1, q2, q3⟩ := id hq
  obtain ⟨x1, x2, x3⟩ := id hx
  obtain ⟨e, he⟩ : ∃ e, e = max n k := ⟨_, rfl⟩
  have heN : e ≤ N := by omega
  refine zMet.of RX0 rfl (by decide +kernel) (Nat.le_of_ble_eq_true rfl) [some (vr q), some (vr x), none, none, none, none] rfl (fun E hG X hQ hNm => ?_)
  subst hG
  refine z_aload_n X dX0_addSize_0 rfl ?_
  refine z_getI X dX0_addSize_1 f_X0_15 rfl (by assumption) ?_
  refine z_aload_n X dX0_addSize_4 rfl ?_
  refine z_getI X dX0_addSize_5 f_X0_15 rfl (by assumption) ?_
  refine z_max X dX0_addSize_8 l_X0_63 ms_max mi_math mc_max (by decide) (Nat.le_of_ble_eq_true rfl) ⟨Nat.le_of_ble_eq_true rfl, Nat.le_of_ble_eq_true rfl⟩ (by omega) (by omega) ?_
  refine z_aload_n X dX0_addSize_11 rfl ?_
  refine z_getR X dX0_addSize_12 f_X0_9 rfl (by assumption) (by assumption) ?_
  refine z_alen X dX0_addSize_15 (by assumption) ?_
  refine z_min X dX0_addSize_16 l_X0_23 ms_min mi_math mc_min (by decide) (Nat.le_of_ble_eq_true rfl) ⟨Nat.le_of_ble_eq_true rfl, Nat.le_of_ble_eq_true rfl⟩ (by omega) (by omega) ?_
  refine z_istore_n X dX0_addSize_19 (fun y => [_, _, some (vi y), _, _, _]) (by decide) (fun _ => rfl) (fun x2_19 hx2_19 => ?_)
  refine z_iconst X dX0_addSize_20 ?_
  refine z_istore_n X dX0_addSize_21 (fun y => [_, _, _, some (vi y), _, _]) (by decide) (fun _ => rfl) (fun x3_21 hx3_21 => ?_)
  subst hx3_21
  refine z_iconst X dX0_addSize_22 ?_
  refine z_istore X dX0_addSize_23 (fun y => [_, _, _, _, some (vi y), _]) (by decide) (fun _ => rfl) (fun x4_23 hx4_23 => ?_)
  subst hx4_23
  obtain rfl : x2_19 = (e : Int) := by omega
  refine zl_addSize X hA hB hne hq hx he heN e 0 m 0 none (by omega) (fun _ _ _ => rfl) (fun _ _ => rfl) (fun j hj => absurd hj (by omega)) (by omega) (by omega) (by simp [zsum]) (fun m' c l5 h1 h2 hc0 hc1 hs => ?_)
  rw [zsum_dg (by omega), zsum_dg (by omega)] at hs
  have hpe := zpow_pos (b := 1073741824) (by omega) e
  refine z_aload_n X dX0_addSize_108 rfl ?_
  refine z_iload_n X dX0_addSize_109 rfl ?_
  refine z_putI X dX0_addSize_110 f_X0_15 rfl rfl (by assumption) ?_
  refine z_aload_n X dX0_addSize_113 rfl ?_
  refine z_iload_n X dX0_addSize_114 rfl ?_
  refine z_callVv X (As := [_]) dX0_addSize_115 m_X0_append i_X0_append l_X0_42 (c_X0_append (zg E) (n := e) hA (zms_same _ _ _ _) heN (by omega)) (by assumption) rfl rfl rfl (Nat.le_of_ble_eq_true rfl) ⟨Nat.le_of_ble_eq_true rfl, Nat.le_of_ble_eq_true rfl⟩ ⟨Nat.le_of_ble_eq_true rfl, Nat.le_of_ble_eq_true rfl⟩ ⟨rfl, rfl⟩ (fun m1 hm => ?_)
  refine z_return (st := []) X rfl hQ dX0_addSize_118 ⟨rfl, rfl, ?_⟩
  subst hm
  by_cases hc : c = 0
  · rw [if_neg (by omega)]
    rw [hc] at hs
    have e4 : zsum 1073741824 (zms m' q 1 (e : Int) (q + 1)) e = zsum 1073741824 (m' (q + 1)) e := zsum_congr (fun j hj => by simp [zms])
    refine ⟨⟨e, ⟨zms_same _ _ _ _, heN, fun i hi => by simpa [zms] using h2 i hi⟩, by rw [e4]; omega⟩, by simp [zms]; exact h1 _ _ (by omega), fun a j ha hb => by rw [zms_nq _ _ _ _ _ ha]; exact h1 a j hb⟩
  · have hc1' : c = 1 := by omega
    subst hc1'
    have heN2 : e < N := by
      rcases Nat.lt_or_ge e N with h | h
      · exact h
      · exfalso
        have : e = N := by omega
        have g1 := zsum_nonneg (b := 1073741824) (by omega) (fun i hi => (h2 i hi).1)
        subst this
        omega
    rw [if_pos ⟨by omega, heN2⟩]
    have e4 : zsum 1073741824 (zms (zms (zms m' q 1 (e : Int)) (q + 1) e 1) q 1 ((e : Int) + 1) (q + 1)) e = zsum 1073741824 (m' (q + 1)) e := zsum_congr (fun j hj => by simp [zms]; omega)
    refine ⟨⟨e + 1, ⟨by simp [zms], by omega, fun i hi => ?_⟩, ?_⟩, by simp [zms]; exact h1 _ _ (by omega), fun a j ha hb => by simp [zms, ha, hb]; exact h1 a j hb⟩
    · by_cases hi2 : i = e
      · subst hi2; simp [zms]
      · simpa [zms, hi2] using h2 i (by omega)
    · rw [zsum_s, e4]
      simp [zms]
      omega
theorem zl_putDifference {E : zCx} {rm : Room} {cs : Nat × Nat} {A : zA} (X : zOK E cX0_putDifference RX0 8 none rm) {q N x M y M2 n k : Nat} (hA : zbigA A q N) (hB : zbigA A x M) (hC : zbigA A y M2) {m0 : zM} (hx : zraw m0 x M n) (hy : zraw m0 y M2 k) (hn : n ≤ N) (hkn : k ≤ n) : ∀ (r i : Nat) (m : zM) (c : Int) (l7 : Option Value), i + r = n → (∀ a j, a ≠ q + 1 ∨ i ≤ j → m a j = m0 a j) → (∀ j, j < i → 0 ≤ m (q + 1) j ∧ m (q + 1) j < 1073741824) → -1 ≤ c → c ≤ 0 → zsum 1073741824 (m (q + 1)) i + c * 1073741824 ^ i = zsum 1073741824 (m0 (x + 1)) i - zsum 1073741824 (zdg (m0 (y + 1)) k) i →
    (∀ (m' : zM) (c : Int) (l7 : Option Value), (∀ a j, a ≠ q + 1 → m' a j = m0 a j) → (∀ j, j < n → 0 ≤ m' (q + 1) j ∧ m' (q + 1) j < 1073741824) → -1 ≤ c → c ≤ 0 → zsum 1073741824 (m' (q + 1)) n + c * 1073741824 ^ n = zsum 1073741824 (m0 (x + 1)) n - zsum 1073741824 (zdg (m0 (y + 1)) k) n → zW E cs A m' 87 [some (vr q), some (vr x), some (vr y), some (vi (n : Int)), some (vi (k : Int)), some (vi c), some (vi (n : Int)), l7] []) → zW E cs A m 25 [some (vr q), some (vr x), some (vr y), some (vi (n : Int)), some (vi (k : Int)), some (vi c), some (vi (i : Int)), l7] [] := by
  obtain ⟨hA1, hA2, hA3, hN, hN2⟩ := id hA
  obtain ⟨hB1, hB2, hB3, hM, hM2⟩ := id hB
  obtain ⟨hC1, hC2, hC3, hMy, hMy2⟩ := id hC
  obtain ⟨x1, x2, x3⟩ := hx
  obtain ⟨y1, y2, y3⟩ := hy
  intro r
  induction r with
  | zero =>
    intro i m c l7 hi h1 h3 hc0 hc1 hs K
    obtain rfl : i = n := by omega
    refine z_iload X dX0_putDifference_25 rfl ?_
    refine z_iload_n X dX0_putDifference_27 rfl ?_
    refine z_icmp_ge X dX0_putDifference_28 87 (by decide) (by omega) (by omega) (fun h28 => ?_) (fun h28 => ?_)
    · exact K m c l7 (fun a j h => h1 a j (Or.inl h)) h3 hc0 hc1 hs
    · exact absurd h28 (by omega)
  | succ r ih =>
    intro i m c l7 hi h1 h3 hc0 hc1 hs K
    have e3 := h1 (x + 1) i (Or.inr (by omega))
    have e4 := h1 (y + 1) i (Or.inr (by omega))
    have e5 := x3 i (by omega)
    have e6 := y3 i
    refine z_iload X dX0_putDifference_25 rfl ?_
    refine z_iload_n X dX0_putDifference_27 rfl ?_
    refine z_icmp_ge X dX0_putDifference_28 87 (by decide) (by omega) (by omega) (fun h28 => ?_) (fun h28 => ?_)
    · exact absurd h28 (by omega)
    · refine z_aload_n X dX0_putDifference_31 rfl ?_
      refine z_getR X dX0_putDifference_32 f_X0_9 rfl (by assumption) (by assumption) ?_
      refine z_iload X dX0_putDifference_35 rfl ?_
      refine z_iald X (_) dX0_putDifference_37 rfl (by assumption) (by omega) (by omega) ?_
      refine z_iload X dX0_putDifference_38 rfl ?_
      refine z_iadd X dX0_putDifference_40 ?_
      refine z_iload X dX0_putDifference_41 rfl ?_
      refine z_iload X dX0_putDifference_43 rfl ?_
      refine z_icmp_ge X dX0_putDifference_45 58 (by decide) (by omega) (by omega) (fun h45 => ?_) (fun h45 => ?_)
      · refine z_iconst X dX0_putDifference_58 ?_
        refine z_isub X dX0_putDifference_59 ?_
        refine z_istore X dX0_putDifference_60 (fun y => [_, _, _, _, _, _, _, some (vi y)]) (by decide) (fun _ => rfl) (fun z hz => ?_)
        have hl : z = m0 (x + 1) i + c - zdg (m0 (y + 1)) k i := by unfold zdg; split <;> omega
        have e9 : -1073741824 ≤ z ∧ z < 1073741824 := by omega
        refine z_aload_n X dX0_putDifference_62 rfl ?_
        refine z_getR X dX0_putDifference_63 f_X0_9 rfl (by assumption) (by assumption) ?_
        refine z_iload X dX0_putDifference_66 rfl ?_
        refine z_iload X dX0_putDifference_68 rfl ?_
        refine z_ldc X dX0_putDifference_70 q_X0_66 (1073741823) (by decide) ?_
        refine z_iand X dX0_putDifference_72 30 (by omega) (by decide) 1073741824 (by decide) ?_
        refine z_iast X (_) dX0_putDifference_73 rfl (by assumption) (by omega) (by omega) ?_
        refine z_iload X dX0_putDifference_74 rfl ?_
        refine z_bipush X dX0_putDifference_76 (by decide) ?_
        refine z_ishr X dX0_putDifference_78 30 1073741824 rfl (by decide) (by decide) (by omega) ?_
        refine z_istore X dX0_putDifference_79 (fun y => [_, _, _, _, _, some (vi y), _, _]) (by decide) (fun _ => rfl) (fun c2 hc2 => ?_)
        refine z_iinc X dX0_putDifference_81 rfl (fun y => [_, _, _, _, _, _, some (vi y), _]) (fun _ => rfl) (fun x6_81 hx6_81 => ?_)
        obtain rfl : x6_81 = ((i + 1 : Nat) : Int) := by omega
        refine z_goto X dX0_putDifference_84 25 (by decide) ?_
        refine ih (i + 1) _ c2 _ (by omega) (fun a j ha => by rw [zms_ne _ _ _ _ (by omega)]; exact h1 a j (by omega)) (fun j hj => ?_) (by omega) (by omega) ?_ K
        · by_cases hji : j = i
          · rw [hji, zms_same]; omega
          · rw [zms_nk _ _ _ _ _ hji]; exact h3 j (by omega)
        · have e7 : zsum 1073741824 (zms m (q + 1) i (z % 1073741824) (q + 1)) i = zsum 1073741824 (m (q + 1)) i := zsum_congr (fun j hj => zms_nk _ _ _ _ _ (by omega))
          rw [zsum_s, zsum_s, zsum_s, zms_same, e7, Int.pow_succ]
          exact zstep_sub hs hl (by omega)
      · refine z_aload_n X dX0_putDifference_48 rfl ?_
        refine z_getR X dX0_putDifference_49 f_X0_9 rfl (by assumption) (by assumption) ?_
        refine z_iload X dX0_putDifference_52 rfl ?_
        refine z_iald X (_) dX0_putDifference_54 rfl (by assumption) (by omega) (by omega) ?_
        refine z_goto X dX0_putDifference_55 59 (by decide) ?_
        refine z_isub X dX0_putDifference_59 ?_
        refine z_istore X dX0_putDifference_60 (fun y => [_, _, _, _, _, _, _, some (vi y)]) (by decide) (fun _ => rfl) (fun z hz => ?_)
        have hl : z = m0 (x + 1) i + c - zdg (m0 (y + 1)) k i := by unfold zdg; split <;> omega
        have e9 : -1073741824 ≤ z ∧ z < 1073741824 := by omega
        refine z_aload_n X dX0_putDifference_62 rfl ?_
        refine z_getR X dX0_putDifference_63 f_X0_9 rfl (by assumption) (by assumption) ?_
        refine z_iload X dX0_putDifference_66 rfl ?_
        refine z_iload X dX0_putDifference_68 rfl ?_
        refine z_ldc X dX0_putDifference_70 q_X0_66 (1073741823) (by decide) ?_
        refine z_iand X dX0_putDifference_72 30 (by omega) (by decide) 1073741824 (by decide) ?_
        refine z_iast X (_) dX0_putDifference_73 rfl (by assumption) (by omega) (by omega) ?_
        refine z_iload X dX0_putDifference_74 rfl ?_
        refine z_bipush X dX0_putDifference_76 (by decide) ?_
        refine z_ishr X dX0_putDifference_78 30 1073741824 rfl (by decide) (by decide) (by omega) ?_
        refine z_istore X dX0_putDifference_79 (fun y => [_, _, _, _, _, some (vi y), _, _]) (by decide) (fun _ => rfl) (fun c2 hc2 => ?_)
        refine z_iinc X dX0_putDifference_81 rfl (fun y => [_, _, _, _, _, _, some (vi y), _]) (fun _ => rfl) (fun x6_81 hx6_81 => ?_)
        obtain rfl : x6_81 = ((i + 1 : Nat) : Int) := by omega
        refine z_goto X dX0_putDifference_84 25 (by decide) ?_
        refine ih (i + 1) _ c2 _ (by omega) (fun a j ha => by rw [zms_ne _ _ _ _ (by omega)]; exact h1 a j (by omega)) (fun j hj => ?_) (by omega) (by omega) ?_ K
        · by_cases hji : j = i
          · rw [hji, zms_same]; omega
          · rw [zms_nk _ _ _ _ _ hji]; exact h3 j (by omega)
        · have e7 : zsum 1073741824 (zms m (q + 1) i (z % 1073741824) (q + 1)) i = zsum 1073741824 (m (q + 1)) i := zsum_congr (fun j hj => zms_nk _ _ _ _ _ (by omega))
          rw [zsum_s, zsum_s, zsum_s, zms_same, e7, Int.pow_succ]
          exact zstep_sub hs hl (by omega)
theorem c_X0_putDifference (G : zG) {A : zA} {m : zM} {q N x M y M2 n k : Nat} (hA : zbigA A q N) (hB : zbigA A x M) (hC : zbigA A y M2) (hx : zraw m x M n) (hy : zraw m y M2 k) (hn : n ≤ N) (hkn : k ≤ n) (hle : zsum 1073741824 (m (y + 1)) k ≤ zsum 1073741824 (m (x + 1)) n) : zMet G k_X0_putDifference [vr q, vr x, vr y] A m (zpv A (fun m' => zraw m' q N n ∧ zsum 1073741824 (m' (q + 1)) n = zsum 1073741824 (m (x + 1)) n - zsum 1073741824 (m (y + 1)) k ∧ m' q 2 = m q 2 ∧ zfr m m' q)) := by
  obtain ⟨hA1, hA2, hA3, hN, hN2⟩ := id hA
  obtain ⟨hB1, hB2, hB3, hM, hM2⟩ := id hB
  obtain ⟨hC1, hC2, hC3, hMy, hMy2⟩ := id hC
  obtain ⟨x1, x2, x3⟩ := id hx
  obtain ⟨y1, y2, y3⟩ := id hy
  refine zMet.of RX0 rfl (by decide +kernel) (Nat.le_of_ble_eq_true rfl) [some (vr q), some (vr x), some (vr y), none, none, none, none, none] rfl (fun E hG X hQ hNm => ?_)
  subst hG
  refine z_aload_n X dX0_putDifference_0 rfl ?_
  refine z_getI X dX0_putDifference_1 f_X0_15 rfl (by assumption) ?_
  refine z_aload_n X dX0_putDifference_4 rfl ?_
  refine z_getR X dX0_putDifference_5 f_X0_9 rfl (by assumption) (by assumption) ?_
  refine z_alen X dX0_putDifference_8 (by assumption) ?_
  refine z_min X dX0_putDifference_9 l_X0_23 ms_min mi_math mc_min (by decide) (Nat.le_of_ble_eq_true rfl) ⟨Nat.le_of_ble_eq_true rfl, Nat.le_of_ble_eq_true rfl⟩ (by omega) (by omega) ?_
  refine z_istore_n X dX0_putDifference_12 (fun y => [_, _, _, some (vi y), _, _, _, _]) (by decide) (fun _ => rfl) (fun x3_12 hx3_12 => ?_)
  refine z_aload_n X dX0_putDifference_13 rfl ?_
  refine z_getI X dX0_putDifference_14 f_X0_15 rfl (by assumption) ?_
  refine z_istore X dX0_putDifference_17 (fun y => [_, _, _, _, some (vi y), _, _, _]) (by decide) (fun _ => rfl) (fun x4_17 hx4_17 => ?_)
  refine z_iconst X dX0_putDifference_19 ?_
  refine z_istore X dX0_putDifference_20 (fun y => [_, _, _, _, _, some (vi y), _, _]) (by decide) (fun _ => rfl) (fun x5_20 hx5_20 => ?_)
  subst hx5_20
  refine z_iconst X dX0_putDifference_22 ?_
  refine z_istore X dX0_putDifference_23 (fun y => [_, _, _, _, _, _, some (vi y), _]) (by decide) (fun _ => rfl) (fun x6_23 hx6_23 => ?_)
  subst hx6_23
  obtain rfl : x3_12 = (n : Int) := by omega
  obtain rfl : x4_17 = (k : Int) := by omega
  refine zl_putDifference X hA hB hC hx hy hn hkn n 0 m 0 none (by omega) (fun _ _ _ => rfl) (fun j hj => absurd hj (by omega)) (by omega) (by omega) (by simp [zsum]) (fun m' c l7 h1 h2 hc0 hc1 hs => ?_)
  rw [zsum_dg hkn] at hs
  have g1 := zsum_lt (b := 1073741824) (by omega) h2
  have hc : c = 0 := by
    rcases (show c = 0 ∨ c = -1 by omega) with h | h
    · exact h
    · rw [h] at hs; omega
  rw [hc] at hs
  have e4 : zsum 1073741824 (zms m' q 1 (n : Int) (q + 1)) n = zsum 1073741824 (m' (q + 1)) n := zsum_congr (fun j hj => by simp [zms])
  refine z_aload_n X dX0_putDifference_87 rfl ?_
  refine z_iload_n X dX0_putDifference_88 rfl ?_
  refine z_putI X dX0_putDifference_89 f_X0_15 rfl rfl (by assumption) ?_
  refine z_return (st := []) X rfl hQ dX0_putDifference_92 ⟨rfl, rfl, ?_⟩
  refine ⟨⟨zms_same _ _ _ _, hn, fun i hi => by simpa [zms] using h2 i hi⟩, by rw [e4]; omega, by simp [zms]; exact h1 _ _ (by omega), fun a j ha hb => by rw [zms_nq _ _ _ _ _ ha]; exact h1 a j hb⟩
theorem zl_compareSizes {E : zCx} {rm : Room} {A : zA} (X : zOK E cX0_compareSizes RX0 3 (some .int) rm) {q N x M n : Nat} (hA : zbigA A q N) (hB : zbigA A x M) {m : zM} (hq : zraw m q N n) (hx : zraw m x M n) {P : Int → zM → Prop} (hQ : zRet E (zpi A P) 0 0) (hlt : zsum 1073741824 (m (q + 1)) n < zsum 1073741824 (m (x + 1)) n → P (-1) m) (heq : zsum 1073741824 (m (q + 1)) n = zsum 1073741824 (m (x + 1)) n → P 0 m) (hgt : zsum 1073741824 (m (x + 1)) n < zsum 1073741824 (m (q + 1)) n → P 1 m) : ∀ (r : Nat), r ≤ n → (∀ j, r ≤ j → j < n → m (q + 1) j = m (x + 1) j) → zW E (0, 0) A m 35 [some (vr q), some (vr x), some (vi ((r : Int) - 1))] [] := by
  obtain ⟨hA1, hA2, hA3, hN, hN2⟩ := id hA
  obtain ⟨hB1, hB2, hB3, hM, hM2⟩ := id hB
  obtain ⟨q1, q2, q3⟩ := id hq
  obtain ⟨x1, x2, x3⟩ := id hx
  intro r
  induction r with
  | zero =>
    intro hr he
    refine z_iload_n X dX0_compareSizes_35 rfl ?_
    refine z_if_lt X dX0_compareSizes_36 81 (by decide) (by omega) (fun h36 => ?_) (fun h36 => ?_)
    · refine z_iconst X dX0_compareSizes_81 ?_
      refine z_ireturn (st := []) X rfl hQ dX0_compareSizes_82 ⟨rfl, _, rfl, ?_⟩
      exact heq (zsum_congr (fun j hj => he j (by omega) hj))
    · exact absurd h36 (by omega)
  | succ r ih =>
    intro hr he
    have e5 := q3 r (by omega)
    have e6 := x3 r (by omega)
    refine z_iload_n X dX0_compareSizes_35 rfl ?_
    refine z_if_lt X dX0_compareSizes_36 81 (by decide) (by omega) (fun h36 => ?_) (fun h36 => ?_)
    · exact absurd h36 (by omega)
    · refine z_aload_n X dX0_compareSizes_39 rfl ?_
      refine z_getR X dX0_compareSizes_40 f_X0_9 rfl (by assumption) (by assumption) ?_
      refine z_iload_n X dX0_compareSizes_43 rfl ?_
      refine z_iald X (r) dX0_compareSizes_44 (by omega) (by assumption) (by omega) (by omega) ?_
      refine z_aload_n X dX0_compareSizes_45 rfl ?_
      refine z_getR X dX0_compareSizes_46 f_X0_9 rfl (by assumption) (by assumption) ?_
      refine z_iload_n X dX0_compareSizes_49 rfl ?_
      refine z_iald X (r) dX0_compareSizes_50 (by omega) (by assumption) (by omega) (by omega) ?_
      refine z_icmp_eq X dX0_compareSizes_51 75 (by decide) (by omega) (by omega) (fun h51 => ?_) (fun h51 => ?_)
      · refine z_iinc X dX0_compareSizes_75 rfl (fun y => [_, _, some (vi y)]) (fun _ => rfl) (fun x2_75 hx2_75 => ?_)
        obtain rfl : x2_75 = (r : Int) - 1 := by omega
        refine z_goto X dX0_compareSizes_78 35 (by decide) ?_
        refine ih (by omega) (fun j h1 h2 => ?_)
        by_cases hj : j = r
        · rw [hj]; exact h51
        · exact he j (by omega) h2
      · refine z_aload_n X dX0_compareSizes_54 rfl ?_
        refine z_getR X dX0_compareSizes_55 f_X0_9 rfl (by assumption) (by assumption) ?_
        refine z_iload_n X dX0_compareSizes_58 rfl ?_
        refine z_iald X (r) dX0_compareSizes_59 (by omega) (by assumption) (by omega) (by omega) ?_
        refine z_aload_n X dX0_compareSizes_60 rfl ?_
        refine z_getR X dX0_compareSizes_61 f_X0_9 rfl (by assumption) (by assumption) ?_
        refine z_iload_n X dX0_compareSizes_64 rfl ?_
        refine z_iald X (r) dX0_compareSizes_65 (by omega) (by assumption) (by omega) (by omega) ?_
        refine z_icmp_ge X dX0_compareSizes_66 73 (by decide) (by omega) (by omega) (fun h66 => ?_) (fun h66 => ?_)
        · refine z_iconst X dX0_compareSizes_73 ?_
          refine z_ireturn (st := []) X rfl hQ dX0_compareSizes_74 ⟨rfl, _, rfl, ?_⟩
          exact hgt (zsum_cmp (by omega) x3 q3 (i := r) (by omega) (fun j h1 h2 => (he j (by omega) h2).symm) (by omega))
        · refine z_iconst X dX0_compareSizes_69 ?_
          refine z_goto X dX0_compareSizes_70 74 (by decide) ?_
          refine z_ireturn (st := []) X rfl hQ dX0_compareSizes_74 ⟨rfl, _, rfl, ?_⟩
          exact hlt (zsum_cmp (by omega) q3 x3 (i := r) (by omega) (fun j h1 h2 => he j (by omega) h2) (by omega))
theorem c_X0_compareSizes (G : zG) {A : zA} {m : zM} {q N x M n k : Nat} (hA : zbigA A q N) (hB : zbigA A x M) (hq : zraw m q N n) (hx : zraw m x M k) (tq : n ≠ 0 → m (q + 1) (n - 1) ≠ 0) (tx : k ≠ 0 → m (x + 1) (k - 1) ≠ 0) : zMet G k_X0_compareSizes [vr q, vr x] A m (zpi A (fun r m' => m = m' ∧ ((r = -1 ∧ zsum 1073741824 (m (q + 1)) n < zsum 1073741824 (m (x + 1)) k) ∨ (r = 0 ∧ zsum 1073741824 (m (q + 1)) n = zsum 1073741824 (m (x + 1)) k ∧ n = k) ∨ (r = 1 ∧ zsum 1073741824 (m (x + 1)) k < zsum 1073741824 (m (q + 1)) n)))) := by
  obtain ⟨hA1, hA2, hA3, hN, hN2⟩ := id hA
  obtain ⟨hB1, hB2, hB3, hM, hM2⟩ := id hB
  obtain ⟨q1, q2, q3⟩ := id hq
  obtain ⟨x1, x2, x3⟩ := id hx
  refine zMet.of RX0 rfl (by decide +kernel) (Nat.le_of_ble_eq_true rfl) [some (vr q), some (vr x), none] rfl (fun E hG X hQ hNm => ?_)
  subst hG
  refine z_aload_n X dX0_compareSizes_0 rfl ?_
  refine z_getI X dX0_compareSizes_1 f_X0_15 rfl (by assumption) ?_
  refine z_aload_n X dX0_compareSizes_4 rfl ?_
  refine z_getI X dX0_compareSizes_5 f_X0_15 rfl (by assumption) ?_
  refine z_icmp_eq X dX0_compareSizes_8 28 (by decide) (by omega) (by omega) (fun h8 => ?_) (fun h8 => ?_)
  · refine z_aload_n X dX0_compareSizes_28 rfl ?_
    refine z_getI X dX0_compareSizes_29 f_X0_15 rfl (by assumption) ?_
    refine z_iconst X dX0_compareSizes_32 ?_
    refine z_isub X dX0_compareSizes_33 ?_
    refine z_istore_n X dX0_compareSizes_34 (fun y => [_, _, some (vi y)]) (by decide) (fun _ => rfl) (fun x2_34 hx2_34 => ?_)
    obtain rfl : n = k := by omega
    obtain rfl : x2_34 = (n : Int) - 1 := by omega
    exact zl_compareSizes X hA hB hq hx hQ (fun h => ⟨rfl, Or.inl ⟨rfl, h⟩⟩) (fun h => ⟨rfl, Or.inr (Or.inl ⟨rfl, h, rfl⟩)⟩) (fun h => ⟨rfl, Or.inr (Or.inr ⟨rfl, h⟩)⟩) n (by omega) (fun j h1 h2 => absurd h1 (by omega))
  · refine z_aload_n X dX0_compareSizes_11 rfl ?_
    refine z_getI X dX0_compareSizes_12 f_X0_15 rfl (by assumption) ?_
    refine z_aload_n X dX0_compareSizes_15 rfl ?_
    refine z_getI X dX0_compareSizes_16 f_X0_15 rfl (by assumption) ?_
    refine z_icmp_ge X dX0_compareSizes_19 26 (by decide) (by omega) (by omega) (fun h19 => ?_) (fun h19 => ?_)
    · refine z_iconst X dX0_compareSizes_26 ?_
      refine z_ireturn (st := []) X rfl hQ dX0_compareSizes_27 ⟨rfl, _, rfl, ?_⟩
      exact ⟨rfl, Or.inr (Or.inr ⟨rfl, zsum_len (by omega) x3 q3 (by omega) (tq (by omega))⟩)⟩
    · refine z_iconst X dX0_compareSizes_22 ?_
      refine z_goto X dX0_compareSizes_23 27 (by decide) ?_
      refine z_ireturn (st := []) X rfl hQ dX0_compareSizes_27 ⟨rfl, _, rfl, ?_⟩
      exact ⟨rfl, Or.inl ⟨rfl, zsum_len (by omega) q3 x3 (by omega) (tx (by omega))⟩⟩

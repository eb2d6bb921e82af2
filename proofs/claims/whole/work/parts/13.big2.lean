/-! Big: copy, times -/
theorem zsum_low {b : Int} (hb : 0 < b) {f : Nat → Int} {n : Nat} (h : ∀ i, i < n + 1 → 0 ≤ f i ∧ f i < b) (hs : b ^ n ≤ zsum b f (n + 1)) : f n ≠ 0 := by
  intro h0
  rw [zsum_s, h0] at hs
  have := zsum_lt hb (fun i (hi : i < n) => h i (by omega))
  omega
theorem zpow_le {b : Int} (hb : 1 ≤ b) {n k : Nat} (h : n ≤ k) : b ^ n ≤ b ^ k := by
  obtain ⟨e, rfl⟩ := Nat.exists_eq_add_of_le h
  rw [Int.pow_add]
  have h1 := zpow_pos (by omega : 0 < b) n
  have h2 := zpow_pos (by omega : 0 < b) e
  have : b ^ n * 1 ≤ b ^ n * b ^ e := Int.mul_le_mul_of_nonneg_left (by omega) (by omega)
  omega
/-- a number below b^k has at most k limbs -/
theorem zlen {f : Nat → Int} {n k : Nat} (h : ∀ i, i < n → 0 ≤ f i ∧ f i < 1073741824) (ht : n ≠ 0 → f (n - 1) ≠ 0) (hs : zsum 1073741824 f n < 1073741824 ^ k) : n ≤ k := by
  rcases Nat.lt_or_ge k n with hk | hk
  · exfalso
    obtain ⟨d, rfl⟩ : ∃ d, n = d + 1 := ⟨n - 1, by omega⟩
    have h1 := zsum_top (b := 1073741824) (by omega) (fun i hi => (h i hi).1) (ht (by omega))
    have h2 : (1073741824 : Int) ^ k ≤ 1073741824 ^ d := zpow_le (by omega) (by omega)
    omega
  · exact hk
/-- the magnitude -/
theorem zbi.abs {m : zM} {q N : Nat} {v : Int} (h : zbi m q N v) : ∃ n : Nat, zraw m q N n ∧ (n ≠ 0 → m (q + 1) (n - 1) ≠ 0) ∧ (v.natAbs : Int) = zsum 1073741824 (m (q + 1)) n ∧ ((m q 2 = 0 ∧ 0 ≤ v) ∨ (m q 2 = 1 ∧ v < 0)) := by
  obtain ⟨n, hr, ht, hs⟩ := h
  have h0 := zsum_nonneg (b := 1073741824) (by omega) (fun i hi => (hr.2.2 i hi).1)
  refine ⟨n, hr, ht, ?_, ?_⟩
  · rcases hs with ⟨_, hs⟩ | ⟨_, _, hs⟩ <;> omega
  · rcases hs with ⟨h1, hs⟩ | ⟨h1, h2, hs⟩
    · exact Or.inl ⟨h1, by omega⟩
    · refine Or.inr ⟨h1, ?_⟩
      obtain ⟨d, rfl⟩ : ∃ d, n = d + 1 := ⟨n - 1, by omega⟩
      have h3 := zsum_top (b := 1073741824) (by omega) (fun i hi => (hr.2.2 i hi).1) (ht (by omega))
      have h4 := zpow_pos (b := 1073741824) (by omega) d
      omega
theorem zbi.mk {m : zM} {q N n : Nat} {v : Int} (hr : zraw m q N n) (ht : n ≠ 0 → m (q + 1) (n - 1) ≠ 0) (hv : (v.natAbs : Int) = zsum 1073741824 (m (q + 1)) n) (hs : (m q 2 = 0 ∧ 0 ≤ v) ∨ (m q 2 = 1 ∧ v < 0)) : zbi m q N v := by
  refine ⟨n, hr, ht, ?_⟩
  rcases hs with ⟨h1, h2⟩ | ⟨h1, h2⟩
  · exact Or.inl ⟨h1, by omega⟩
  · refine Or.inr ⟨h1, fun h => ?_, by omega⟩
    subst h
    rw [zsum_0] at hv
    omega
theorem zbi.lt {m : zM} {q N : Nat} {v : Int} (h : zbi m q N v) : (v.natAbs : Int) < 1073741824 ^ N := by
  obtain ⟨n, hr, -, hv, -⟩ := h.abs
  have h1 := zsum_lt (b := 1073741824) (by omega) hr.2.2
  have h2 : (1073741824 : Int) ^ n ≤ 1073741824 ^ N := zpow_le (by omega) hr.2.1
  omega
theorem zl_copy {E : zCx} {rm : Room} {cs : Nat × Nat} {A : zA} (X : zOK E cX0_copy RX0 4 none rm) {q N x M : Nat} (hA : zbigA A q N) (hB : zbigA A x M) (hne : x ≠ q) {m0 : zM} {e : Nat} (heN : e ≤ N) (heM : e ≤ M) : ∀ (r i : Nat) (m : zM), i + r = e → (∀ a j, a ≠ q + 1 → m a j = m0 a j) → (∀ j, j < i → m (q + 1) j = m0 (x + 1) j) →
    (∀ m', (∀ a j, a ≠ q + 1 → m' a j = m0 a j) → (∀ j, j < e → m' (q + 1) j = m0 (x + 1) j) → zW E cs A m' 38 [some (vr q), some (vr x), some (vi (e : Int)), some (vi (e : Int))] []) → zW E cs A m 15 [some (vr q), some (vr x), some (vi (e : Int)), some (vi (i : Int))] [] := by
  obtain ⟨hx1, hx2⟩ := zbigA.ap hA hB hne
  obtain ⟨hA1, hA2, hA3, hN, hN2⟩ := id hA
  obtain ⟨hB1, hB2, hB3, hM, hM2⟩ := id hB
  intro r
  induction r with
  | zero =>
    intro i m hi h1 h2 K
    obtain rfl : i = e := by omega
    refine z_iload_n X dX0_copy_15 rfl ?_
    refine z_iload_n X dX0_copy_16 rfl ?_
    refine z_icmp_ge X dX0_copy_17 38 (by decide) (by omega) (by omega) (fun h17 => ?_) (fun h17 => ?_)
    · exact K m h1 h2
    · exact absurd h17 (by omega)
  | succ r ih =>
    intro i m hi h1 h2 K
    refine z_iload_n X dX0_copy_15 rfl ?_
    refine z_iload_n X dX0_copy_16 rfl ?_
    refine z_icmp_ge X dX0_copy_17 38 (by decide) (by omega) (by omega) (fun h17 => ?_) (fun h17 => ?_)
    · exact absurd h17 (by omega)
    · refine z_aload_n X dX0_copy_20 rfl ?_
      refine z_getR X dX0_copy_21 f_X0_9 rfl (by assumption) (by assumption) ?_
      refine z_iload_n X dX0_copy_24 rfl ?_
      refine z_aload_n X dX0_copy_25 rfl ?_
      refine z_getR X dX0_copy_26 f_X0_9 rfl (by assumption) (by assumption) ?_
      refine z_iload_n X dX0_copy_29 rfl ?_
      refine z_iald X (_) dX0_copy_30 rfl (by assumption) (by omega) (by omega) ?_
      refine z_iast X (_) dX0_copy_31 rfl (by assumption) (by omega) (by omega) ?_
      refine z_iinc X dX0_copy_32 rfl (fun y => [_, _, _, some (vi y)]) (fun _ => rfl) (fun x3_32 hx3_32 => ?_)
      obtain rfl : x3_32 = ((i + 1 : Nat) : Int) := by omega
      refine z_goto X dX0_copy_35 15 (by decide) ?_
      refine ih (i + 1) _ (by omega) (fun a j ha => by rw [zms_nq _ _ _ _ _ ha]; exact h1 a j ha) (fun j hj => ?_) K
      by_cases hji : j = i
      · rw [hji, zms_same]; exact h1 _ _ (by omega)
      · rw [zms_nk _ _ _ _ _ hji]; exact h2 j (by omega)
theorem c_X0_copy (G : zG) {A : zA} {m : zM} {q N x M : Nat} {v : Int} (hA : zbigA A q N) (hB : zbigA A x M) (hne : x ≠ q) (hb : zbi m x M v) (hv : (v.natAbs : Int) < 1073741824 ^ N) : zMet G k_X0_copy [vr q, vr x] A m (zpv A (fun m' => zbi m' q N v ∧ zfr m m' q)) := by
  obtain ⟨hx1, hx2⟩ := zbigA.ap hA hB hne
  obtain ⟨hA1, hA2, hA3, hN, hN2⟩ := id hA
  obtain ⟨hB1, hB2, hB3, hM, hM2⟩ := id hB
  obtain ⟨n, hr, ht, hv2, hs⟩ := hb.abs
  have hnN : n ≤ N := zlen hr.2.2 ht (by rw [← hv2]; exact hv)
  have e1 := hr.1
  have hnM := hr.2.1
  refine zMet.of RX0 rfl (by decide +kernel) (Nat.le_of_ble_eq_true rfl) [some (vr q), some (vr x), none, none] rfl (fun E hG X hQ hNm => ?_)
  subst hG
  refine z_aload_n X dX0_copy_0 rfl ?_
  refine z_getI X dX0_copy_1 f_X0_15 rfl (by assumption) ?_
  refine z_aload_n X dX0_copy_4 rfl ?_
  refine z_getR X dX0_copy_5 f_X0_9 rfl (by assumption) (by assumption) ?_
  refine z_alen X dX0_copy_8 (by assumption) ?_
  refine z_min X dX0_copy_9 l_X0_23 ms_min mi_math mc_min (by decide) (Nat.le_of_ble_eq_true rfl) ⟨Nat.le_of_ble_eq_true rfl, Nat.le_of_ble_eq_true rfl⟩ (by omega) (by omega) ?_
  refine z_istore_n X dX0_copy_12 (fun y => [_, _, some (vi y), _]) (by decide) (fun _ => rfl) (fun x2_12 hx2_12 => ?_)
  refine z_iconst X dX0_copy_13 ?_
  refine z_istore_n X dX0_copy_14 (fun y => [_, _, _, some (vi y)]) (by decide) (fun _ => rfl) (fun i hi => ?_)
  subst hi
  obtain rfl : x2_12 = (n : Int) := by omega
  refine zl_copy X hA hB hne hnN hnM n 0 m (by omega) (fun _ _ _ => rfl) (fun j hj => absurd hj (by omega)) (fun m' h1 h2 => ?_)
  have e2 : zms m' q 1 (n : Int) x 2 = m x 2 := by rw [zms_nk _ _ _ _ _ (by omega)]; exact h1 _ _ (by omega)
  have e3 : zms m' q 1 (n : Int) x 2 = 0 ∨ zms m' q 1 (n : Int) x 2 = 1 := by rw [e2]; omega
  refine z_aload_n X dX0_copy_38 rfl ?_
  refine z_iload_n X dX0_copy_39 rfl ?_
  refine z_putI X dX0_copy_40 f_X0_15 rfl rfl (by assumption) ?_
  refine z_aload_n X dX0_copy_43 rfl ?_
  refine z_aload_n X dX0_copy_44 rfl ?_
  refine z_getI X dX0_copy_45 f_X0_19 rfl (by assumption) ?_
  refine z_putZ X dX0_copy_48 f_X0_19 (by first | exact Or.inl rfl | exact Or.inr rfl | omega) rfl rfl (by assumption) ?_
  refine z_return (st := []) X rfl hQ dX0_copy_51 ⟨rfl, rfl, ?_⟩
  refine ⟨zbi.mk (n := n) ⟨by simp [zms], hnN, fun i hi => ?_⟩ (fun h => ?_) (hv2.trans (zsum_congr (fun i hi => ?_))) ?_, fun a j ha hb => ?_⟩
  · simp only [zms, Nat.add_eq_left, Nat.succ_ne_self, false_and, if_false]
    rw [h2 i hi]
    exact hr.2.2 i hi
  · simp only [zms, Nat.add_eq_left, Nat.succ_ne_self, false_and, if_false]
    rw [h2 _ (by omega)]
    exact ht h
  · simp only [zms, Nat.add_eq_left, Nat.succ_ne_self, false_and, if_false]
    rw [h2 i hi]
  · rw [zms_same, e2]
    exact hs
  · rw [zms_nq _ _ _ _ _ ha, zms_nq _ _ _ _ _ ha]
    exact h1 a j hb
/-- the limbs times by, and what is carried -/
theorem zl_times {E : zCx} {rm : Room} {cs : Nat × Nat} {A : zA} (X : zOK E cX0_times RX0 9 none rm) {q N n : Nat} (hA : zbigA A q N) {m0 : zM} {by' : Int} {f : Value} (h0 : m0 q 1 = (n : Int)) (hn : n ≤ N) (hl0 : ∀ i, i < n → 0 ≤ m0 (q + 1) i ∧ m0 (q + 1) i < 1073741824) (hby : 1 ≤ by' ∧ by' ≤ 1073741824) : ∀ (r i : Nat) (m : zM) (c : Int) (l7 l8 : Option Value), i + r = n → (∀ a j, a ≠ q + 1 → m a j = m0 a j) → (∀ j, i ≤ j → m (q + 1) j = m0 (q + 1) j) → (∀ j, j < i → 0 ≤ m (q + 1) j ∧ m (q + 1) j < 1073741824) → 0 ≤ c → c < by' → zsum 1073741824 (m (q + 1)) i + c * 1073741824 ^ i = zsum 1073741824 (m0 (q + 1)) i * by' →
    (∀ (m' : zM) (c : Int) (l7 l8 : Option Value), (∀ a j, a ≠ q + 1 → m' a j = m0 a j) → (∀ j, j < n → 0 ≤ m' (q + 1) j ∧ m' (q + 1) j < 1073741824) → 0 ≤ c → c < by' → zsum 1073741824 (m' (q + 1)) n + c * 1073741824 ^ n = zsum 1073741824 (m0 (q + 1)) n * by' → zW E cs A m' 92 [some (vr q), some f, some (vl by'), none, some (vl c), none, some (vi (n : Int)), l7, l8] []) → zW E cs A m 41 [some (vr q), some f, some (vl by'), none, some (vl c), none, some (vi (i : Int)), l7, l8] [] := by
  obtain ⟨hA1, hA2, hA3, hN, hN2⟩ := id hA
  intro r
  induction r with
  | zero =>
    intro i m c l7 l8 hi h1 h2 h3 hc0 hc1 hs K
    obtain rfl : i = n := by omega
    have e1 : m q 1 = (i : Int) := (h1 q 1 (by omega)).trans h0
    refine z_iload X dX0_times_41 rfl ?_
    refine z_aload_n X dX0_times_43 rfl ?_
    refine z_getI X dX0_times_44 f_X0_15 rfl (by assumption) ?_
    refine z_icmp_ge X dX0_times_47 92 (by decide) (by omega) (by omega) (fun h47 => ?_) (fun h47 => ?_)
    · exact K m c l7 l8 h1 h3 hc0 hc1 hs
    · exact absurd h47 (by omega)
  | succ r ih =>
    intro i m c l7 l8 hi h1 h2 h3 hc0 hc1 hs K
    have e1 : m q 1 = (n : Int) := (h1 q 1 (by omega)).trans h0
    have hli : 0 ≤ m (q + 1) i ∧ m (q + 1) i < 1073741824 := by rw [h2 i (by omega)]; exact hl0 i (by omega)
    have hp1 : 0 ≤ m (q + 1) i * by' := Int.mul_nonneg hli.1 (by omega)
    have hp2 : m (q + 1) i * by' ≤ 1073741823 * by' := Int.mul_le_mul_of_nonneg_right (by omega) (by omega)
    refine z_iload X dX0_times_41 rfl ?_
    refine z_aload_n X dX0_times_43 rfl ?_
    refine z_getI X dX0_times_44 f_X0_15 rfl (by assumption) ?_
    refine z_icmp_ge X dX0_times_47 92 (by decide) (by omega) (by omega) (fun h47 => ?_) (fun h47 => ?_)
    · exact absurd h47 (by omega)
    · refine z_aload_n X dX0_times_50 rfl ?_
      refine z_getR X dX0_times_51 f_X0_9 rfl (by assumption) (by assumption) ?_
      refine z_iload X dX0_times_54 rfl ?_
      refine z_iald X (_) dX0_times_56 rfl (by assumption) (by omega) (by omega) ?_
      refine z_i2l X dX0_times_57 (by omega) ?_
      refine z_lload_n X dX0_times_58 rfl ?_
      refine z_lmul X dX0_times_59 ?_
      refine z_lload X dX0_times_60 rfl ?_
      refine z_ladd X dX0_times_62 ?_
      refine z_lstore X dX0_times_63 (fun y => [_, _, _, _, _, _, _, some (vl y), _]) (by decide) (fun _ => rfl) (fun x hx => ?_)
      refine z_aload_n X dX0_times_65 rfl ?_
      refine z_getR X dX0_times_66 f_X0_9 rfl (by assumption) (by assumption) ?_
      refine z_iload X dX0_times_69 rfl ?_
      refine z_lload X dX0_times_71 rfl ?_
      refine z_ldc2 X dX0_times_73 q_X0_40 (1073741823) (by decide) ?_
      refine z_land X dX0_times_76 30 (by omega) (by decide) 1073741824 (by decide) ?_
      refine z_l2i X dX0_times_77 ?_
      refine z_iast X (_) dX0_times_78 rfl (by assumption) (by omega) (by omega) ?_
      refine z_lload X dX0_times_79 rfl ?_
      refine z_bipush X dX0_times_81 (by decide) ?_
      refine z_lshr X dX0_times_83 30 1073741824 rfl (by decide) (by decide) (by omega) ?_
      refine z_lstore X dX0_times_84 (fun y => [_, _, _, _, some (vl y), _, _, _, _]) (by decide) (fun _ => rfl) (fun c2 hc2 => ?_)
      refine z_iinc X dX0_times_86 rfl (fun y => [_, _, _, _, _, _, some (vi y), _, _]) (fun _ => rfl) (fun x6_86 hx6_86 => ?_)
      obtain rfl : x6_86 = ((i + 1 : Nat) : Int) := by omega
      refine z_goto X dX0_times_89 41 (by decide) ?_
      refine ih (i + 1) _ c2 _ _ (by omega) (fun a j ha => by rw [zms_nq _ _ _ _ _ ha]; exact h1 a j ha) (fun j hj => by rw [zms_nk _ _ _ _ _ (by omega)]; exact h2 j (by omega)) (fun j hj => ?_) (by omega) (by omega) ?_ K
      · by_cases hji : j = i
        · rw [hji, zms_same]; omega
        · rw [zms_nk _ _ _ _ _ hji]; exact h3 j (by omega)
      · rw [zsum_s, zsum_s, zms_same, zsum_congr (g := m (q + 1)) (fun j hj => zms_nk _ _ _ _ _ (by omega)), Int.pow_succ]
        have e3 : m0 (q + 1) i * by' + c = x % 1073741824 + c2 * 1073741824 := by rw [← h2 i (by omega)]; omega
        exact zstep_mul hs e3
theorem zt_times18 {E : zCx} (X : zOK E cX0_times RX0 9 none k_X0_times.2.2.2.2) {A : zA} {m : zM} {q N : Nat} {u f : Int} {P : zM → Prop} (hQ : zRet E (zpv A P) 0 0) (hA : zbigA A q N) (hb : zbi m q N u) (hf0 : f ≠ 0) (hf : -1073741824 ≤ f ∧ f ≤ 1073741824) (hfit : ((u * f).natAbs : Int) < 1073741824 ^ N) (hP : ∀ m', zbi m' q N (u * (f.natAbs : Int)) → zfr m m' q → P m') :
    zW E (0, 0) A m 18 [some (vr q), some (vi f), none, none, none, none, none, none, none] [] := by
  obtain ⟨hA1, hA2, hA3, hN, hN2⟩ := id hA
  obtain ⟨n, hr, ht, hv2, hs⟩ := hb.abs
  refine z_iload_n X dX0_times_18 rfl ?_
  refine z_iconst X dX0_times_19 ?_
  refine z_icmp_eq X dX0_times_20 28 (by decide) (by omega) (by omega) (fun h20 => ?_) (fun h20 => ?_)
  · refine z_return (st := []) X rfl hQ dX0_times_28 ⟨rfl, rfl, ?_⟩
    exact hP m (by rw [h20]; simpa using hb) zfr.rfl'
  · refine z_iload_n X dX0_times_23 rfl ?_
    refine z_iconst X dX0_times_24 ?_
    refine z_icmp_ne X dX0_times_25 29 (by decide) (by omega) (by omega) (fun h25 => ?_) (fun h25 => ?_)
    · refine z_iload_n X dX0_times_29 rfl ?_
      refine z_i2l X dX0_times_30 (by omega) ?_
      refine z_absl X dX0_times_31 l_X0_36 ms_absl mi_math mc_absl (by decide) (Nat.le_of_ble_eq_true rfl) ⟨Nat.le_of_ble_eq_true rfl, Nat.le_of_ble_eq_true rfl⟩ (by omega) ?_
      refine z_lstore_n X dX0_times_34 (fun y => [_, _, some (vl y), _, _, _, _, _, _]) (by decide) (fun _ => rfl) (fun x2_34 hx2_34 => ?_)
      subst hx2_34
      refine z_lconst X dX0_times_35 0 rfl ?_
      refine z_lstore X dX0_times_36 (fun y => [_, _, _, _, some (vl y), _, _, _, _]) (by decide) (fun _ => rfl) (fun x4_36 hx4_36 => ?_)
      subst hx4_36
      refine z_iconst X dX0_times_38 ?_
      refine z_istore X dX0_times_39 (fun y => [_, _, _, _, _, _, some (vi y), _, _]) (by decide) (fun _ => rfl) (fun x6_39 hx6_39 => ?_)
      subst hx6_39
      refine zl_times X hA (m0 := m) hr.1 hr.2.1 hr.2.2 (by' := (f.natAbs : Int)) (by omega) n 0 m 0 none none (by omega) (fun _ _ _ => rfl) (fun _ _ => rfl) (fun j hj => absurd hj (by omega)) (by omega) (by omega) (by simp [zsum]) (fun m' c l7 l8 h1 h2 hc0 hc1 hsum => ?_)
      have e1 : m' q 1 = (n : Int) := (h1 q 1 (by omega)).trans hr.1
      have e2 : m' q 2 = m q 2 := h1 q 2 (by omega)
      have hab : ((u * (f.natAbs : Int)).natAbs : Int) = zsum 1073741824 (m' (q + 1)) n + c * 1073741824 ^ n := by
        rw [hsum, Int.natAbs_mul, Int.natAbs_natCast, ← hv2]; exact Int.natCast_mul _ _
      have hfit2 : zsum 1073741824 (m' (q + 1)) n + c * 1073741824 ^ n < 1073741824 ^ N := by
        rw [← hab, Int.natAbs_mul, Int.natAbs_natCast, ← Int.natAbs_mul]; exact hfit
      have hpn := zpow_pos (b := 1073741824) (by omega) n
      have hsg : (m q 2 = 0 ∧ 0 ≤ u * (f.natAbs : Int)) ∨ (m q 2 = 1 ∧ u * (f.natAbs : Int) < 0) := by
        rcases hs with ⟨g1, g2⟩ | ⟨g1, g2⟩
        · exact Or.inl ⟨g1, Int.mul_nonneg g2 (by omega)⟩
        · exact Or.inr ⟨g1, Int.mul_neg_of_neg_of_pos g2 (by omega)⟩
      refine z_aload_n X dX0_times_92 rfl ?_
      refine z_lload X dX0_times_93 rfl ?_
      refine z_l2i X dX0_times_95 ?_
      refine z_callVv X (As := [_]) dX0_times_96 m_X0_append i_X0_append l_X0_42 (c_X0_append (zg E) hA e1 hr.2.1 (by omega)) (by assumption) rfl rfl rfl (Nat.le_of_ble_eq_true rfl) ⟨Nat.le_of_ble_eq_true rfl, Nat.le_of_ble_eq_true rfl⟩ ⟨Nat.le_of_ble_eq_true rfl, Nat.le_of_ble_eq_true rfl⟩ ⟨rfl, rfl⟩ (fun m1 hm => ?_)
      refine z_return (st := []) X rfl hQ dX0_times_99 ⟨rfl, rfl, ?_⟩
      refine hP m1 ?_ ?_
      · by_cases hc : c = 0
        · rw [if_neg (by omega)] at hm
          subst hm
          rw [hc] at hsum hab
          refine zbi.mk (n := n) ⟨e1, hr.2.1, h2⟩ (fun h => ?_) (by rw [hab]; omega) (by rw [e2]; exact hsg)
          obtain ⟨d, rfl⟩ : ∃ d, n = d + 1 := ⟨n - 1, by omega⟩
          simp only [Nat.add_sub_cancel]
          refine zsum_low (b := 1073741824) (by omega) h2 ?_
          have g1 := zsum_top (n := d) (b := 1073741824) (by omega) (fun i hi => (hr.2.2 i hi).1) (ht (by omega))
          have g0 := zpow_pos (b := 1073741824) (by omega) d
          have g2 : zsum 1073741824 (m (q + 1)) (d + 1) * 1 ≤ zsum 1073741824 (m (q + 1)) (d + 1) * (f.natAbs : Int) := Int.mul_le_mul_of_nonneg_left (by omega) (by omega)
          omega
        · have hnN : n < N := by
            rcases Nat.lt_or_ge n N with h | h
            · exact h
            · exfalso
              have : n = N := by have := hr.2.1; omega
              subst this
              have g1 := zsum_nonneg (b := 1073741824) (by omega) (fun i hi => (h2 i hi).1)
              have g2 : 1 * 1073741824 ^ n ≤ c * 1073741824 ^ n := Int.mul_le_mul_of_nonneg_right (by omega) (by omega)
              omega
          rw [if_pos ⟨hc, hnN⟩] at hm
          subst hm
          refine zbi.mk (n := n + 1) ⟨by simp [zms], by omega, fun i hi => ?_⟩ (fun _ => by simp [zms]; exact hc) ?_ (by simp [zms]; rw [e2]; exact hsg)
          · by_cases hi2 : i = n
            · subst hi2; simp [zms]; omega
            · simpa [zms, hi2] using h2 i (by omega)
          · have e4 : zsum 1073741824 (zms (zms m' (q + 1) n c) q 1 ((n : Int) + 1) (q + 1)) n = zsum 1073741824 (m' (q + 1)) n := zsum_congr (fun j hj => by simp [zms]; omega)
            rw [hab, zsum_s, e4]
            simp [zms]
      · intro a j ha hb'
        subst hm
        split
        · simp [zms, ha, hb', h1 a j hb']
        · exact h1 a j hb'
    · refine z_return (st := []) X rfl hQ dX0_times_28 ⟨rfl, rfl, ?_⟩
      have h25' : f = -1 := by omega
      exact hP m (by rw [h25']; simpa using hb) zfr.rfl'
theorem c_X0_times (G : zG) {A : zA} {m : zM} {q N : Nat} {v f : Int} (hA : zbigA A q N) (hb : zbi m q N v) (hf : -1073741824 ≤ f ∧ f ≤ 1073741824) (hfit : ((v * f).natAbs : Int) < 1073741824 ^ N) : zMet G k_X0_times [vr q, vi f] A m (zpv A (fun m' => zbi m' q N (v * f) ∧ zfr m m' q)) := by
  obtain ⟨hA1, hA2, hA3, hN, hN2⟩ := id hA
  refine zMet.of RX0 rfl (by decide +kernel) (Nat.le_of_ble_eq_true rfl) [some (vr q), some (vi f), none, none, none, none, none, none, none] rfl (fun E hG X hQ hNm => ?_)
  subst hG
  refine z_iload_n X dX0_times_0 rfl ?_
  refine z_if_ne X dX0_times_1 10 (by decide) (by omega) (fun h1 => ?_) (fun h1 => ?_)
  · refine z_iload_n X dX0_times_10 rfl ?_
    refine z_if_ge X dX0_times_11 18 (by decide) (by omega) (fun h11 => ?_) (fun h11 => ?_)
    · refine zt_times18 X hQ hA hb (by omega) hf hfit (fun m' g1 g2 => ⟨?_, g2⟩)
      have : (f.natAbs : Int) = f := by omega
      rw [this] at g1
      exact g1
    · refine z_aload_n X dX0_times_14 rfl ?_
      refine z_callVv X (As := []) dX0_times_15 m_X0_negate i_X0_negate l_X0_33 (c_X0_negate (zg E) hA hb) (by assumption) rfl rfl rfl (Nat.le_of_ble_eq_true rfl) ⟨Nat.le_of_ble_eq_true rfl, Nat.le_of_ble_eq_true rfl⟩ ⟨Nat.le_of_ble_eq_true rfl, Nat.le_of_ble_eq_true rfl⟩ ⟨rfl, rfl⟩ (fun m1 hm => ?_)
      refine zt_times18 X hQ hA hm.1 (by omega) hf (by rw [Int.neg_mul, Int.natAbs_neg]; exact hfit) (fun m' g1 g2 => ⟨?_, hm.2.trans g2⟩)
      have : (f.natAbs : Int) = - f := by omega
      rw [this, Int.neg_mul_neg] at g1
      exact g1
  · refine z_aload_n X dX0_times_4 rfl ?_
    refine z_iconst X dX0_times_5 ?_
    refine z_callVv X (As := [_]) dX0_times_6 m_X0_put i_X0_put l_X0_29 (c_X0_put (zg E) hA (by omega)) (by assumption) rfl rfl rfl (Nat.le_of_ble_eq_true rfl) ⟨Nat.le_of_ble_eq_true rfl, Nat.le_of_ble_eq_true rfl⟩ ⟨Nat.le_of_ble_eq_true rfl, Nat.le_of_ble_eq_true rfl⟩ ⟨rfl, rfl⟩ (fun m1 hm => ?_)
    refine z_return (st := []) X rfl hQ dX0_times_9 ⟨rfl, rfl, ?_⟩
    have h1' : f = 0 := by omega
    rw [h1', Int.mul_zero]
    exact hm

/-! Big: sixteenBits, takeAway, putBack, takeQuotient -/
theorem zsum_div {b : Int} (hb : 0 < b) {f : Nat → Int} {n i : Nat} (h : ∀ j, j < n → 0 ≤ f j ∧ f j < b) (hi : i ≤ n) : zsum b f n / b ^ i = zsum b (fun j => f (i + j)) (n - i) := by
  obtain ⟨d, rfl⟩ := Nat.exists_eq_add_of_le hi
  have h1 := zsum_lt hb (fun j (hj : j < i) => h j (by omega))
  have h2 := zsum_nonneg hb (fun j (hj : j < i) => (h j (by omega)).1)
  rw [zsum_add, Nat.add_sub_cancel_left, Int.add_mul_ediv_left _ _ (by omega), Int.ediv_eq_zero_of_lt h2 h1, Int.zero_add]
theorem zbits_low {a c : Int} {s : Nat} (hs : s ≤ 29) : (a + 1152921504606846976 * c) / ((2 ^ s : Nat) : Int) % 65536 = a / ((2 ^ s : Nat) : Int) % 65536 := by
  have e : (1152921504606846976 : Int) = ((2 ^ s : Nat) : Int) * (65536 * ((2 ^ (44 - s) : Nat) : Int)) := by
    have h1 : (2 ^ s : Nat) * (65536 * 2 ^ (44 - s)) = 2 ^ 60 := by
      have : (65536 : Nat) = 2 ^ 16 := by decide
      rw [this, ← Nat.pow_add, ← Nat.pow_add]
      congr 1; omega
    have h2 := congrArg (Nat.cast : Nat → Int) h1
    rw [Int.natCast_mul, Int.natCast_mul] at h2
    exact h2.symm
  rw [e, Int.mul_assoc, Int.add_mul_ediv_left _ _ (by have := zP2 s; omega), Int.mul_assoc, Int.add_mul_emod_self_left]
theorem c_X0_sixteenBits (G : zG) {A : zA} {m : zM} {q N : Nat} {v k : Int} (hA : zbigA A q N) (hb : zbi m q N v) (hk : 0 ≤ k ∧ k < 2147483648) : zMet G k_X0_sixteenBits [vr q, vi k] A m (zpi A (fun r m' => m = m' ∧ r = (v.natAbs : Int) / ((2 ^ (16 * k.toNat) : Nat) : Int) % 65536)) := by
  obtain ⟨hA1, hA2, hA3, hN, hN2⟩ := id hA
  obtain ⟨n, hr, ht, hv, hs⟩ := hb.abs
  obtain ⟨q1, q2, q3⟩ := id hr
  obtain ⟨K, rfl⟩ := Int.eq_ofNat_of_zero_le hk.1
  rw [Int.toNat_natCast]
  obtain ⟨P, s, hs29, hPs⟩ : ∃ P s : Nat, s ≤ 29 ∧ 16 * K = 30 * P + s := ⟨16 * K / 30, 16 * K % 30, by omega, by omega⟩
  have key : (v.natAbs : Int) / ((2 ^ (16 * K) : Nat) : Int) = zsum 1073741824 (fun j => m (q + 1) (P + j)) (n - P) / ((2 ^ s : Nat) : Int) := by
    rw [hPs, Nat.pow_add, Int.natCast_mul, ← Int.ediv_ediv_of_nonneg (by have := zP2 (30 * P); omega), ← zB30]
    by_cases hPn : P ≤ n
    · rw [hv, zsum_div (by omega) q3 hPn]
    · have h1 : zsum 1073741824 (fun j => m (q + 1) (P + j)) (n - P) = 0 := by rw [show n - P = 0 by omega]; rfl
      have h2 := hb.lt
      have h3 : (v.natAbs : Int) < 1073741824 ^ P := by
        have h4 := zsum_lt (b := 1073741824) (by omega) q3
        have h5 : (1073741824 : Int) ^ n ≤ 1073741824 ^ P := zpow_le (by omega) (by omega)
        omega
      rw [h1, Int.ediv_eq_zero_of_lt (by omega) h3]
  refine zMet.of RX0 rfl (by decide +kernel) (Nat.le_of_ble_eq_true rfl) [some (vr q), some (vi (K : Int)), none, none, none, none, none, none, none, none] rfl (fun E hG X hQ hNm => ?_)
  subst hG
  refine z_ldc2 X dX0_sixteenBits_0 q_X0_67 (16) (by decide) ?_
  refine z_iload_n X dX0_sixteenBits_3 rfl ?_
  refine z_i2l X dX0_sixteenBits_4 (by omega) ?_
  refine z_lmul X dX0_sixteenBits_5 ?_
  refine z_lstore_n X dX0_sixteenBits_6 (fun y => [_, _, some (vl y), _, _, _, _, _, _, _]) (by decide) (fun _ => rfl) (fun b hbt => ?_)
  refine z_lload_n X dX0_sixteenBits_7 rfl ?_
  refine z_ldc2 X dX0_sixteenBits_8 q_X0_69 (30) (by decide) ?_
  refine z_ldiv X dX0_sixteenBits_11 (by omega) (by omega) ?_
  refine z_lstore X dX0_sixteenBits_12 (fun y => [_, _, _, _, some (vl y), _, _, _, _, _]) (by decide) (fun _ => rfl) (fun pl hpl => ?_)
  refine z_lload_n X dX0_sixteenBits_14 rfl ?_
  refine z_ldc2 X dX0_sixteenBits_15 q_X0_69 (30) (by decide) ?_
  refine z_lrem X dX0_sixteenBits_18 (by omega) (by omega) ?_
  refine z_l2i X dX0_sixteenBits_19 ?_
  refine z_istore X dX0_sixteenBits_20 (fun y => [_, _, _, _, _, _, some (vi y), _, _, _]) (by decide) (fun _ => rfl) (fun sh hsh => ?_)
  obtain rfl : pl = (P : Int) := by omega
  obtain rfl : sh = (s : Int) := by omega
  refine z_lload X dX0_sixteenBits_22 rfl ?_
  refine z_lconst X dX0_sixteenBits_24 0 rfl ?_
  refine z_lcmp_lt X dX0_sixteenBits_25 dX0_sixteenBits_26 40 (by decide) (by omega) (by omega) (fun h25 => ?_) (fun h25 => ?_)
  · exact absurd h25 (by omega)
  · refine z_lload X dX0_sixteenBits_29 rfl ?_
    refine z_aload_n X dX0_sixteenBits_31 rfl ?_
    refine z_getI X dX0_sixteenBits_32 f_X0_15 rfl (by assumption) ?_
    refine z_i2l X dX0_sixteenBits_35 (by omega) ?_
    refine z_lcmp_lt X dX0_sixteenBits_36 dX0_sixteenBits_37 42 (by decide) (by omega) (by omega) (fun h36 => ?_) (fun h36 => ?_)
    · refine z_lload X dX0_sixteenBits_42 rfl ?_
      refine z_l2i X dX0_sixteenBits_44 ?_
      refine z_istore X dX0_sixteenBits_45 (fun y => [_, _, _, _, _, _, _, some (vi y), _, _]) (by decide) (fun _ => rfl) (fun x7_45 hx7_45 => ?_)
      subst hx7_45
      refine z_aload_n X dX0_sixteenBits_47 rfl ?_
      refine z_getR X dX0_sixteenBits_48 f_X0_9 rfl (by assumption) (by assumption) ?_
      refine z_iload X dX0_sixteenBits_51 rfl ?_
      have e1 := q3 P (by omega)
      refine z_iald X (_) dX0_sixteenBits_53 rfl (by assumption) (by omega) (by omega) ?_
      refine z_i2l X dX0_sixteenBits_54 (by omega) ?_
      refine z_iload X dX0_sixteenBits_55 rfl ?_
      refine z_iconst X dX0_sixteenBits_57 ?_
      refine z_iadd X dX0_sixteenBits_58 ?_
      refine z_aload_n X dX0_sixteenBits_59 rfl ?_
      refine z_getI X dX0_sixteenBits_60 f_X0_15 rfl (by assumption) ?_
      refine z_icmp_ge X dX0_sixteenBits_63 82 (by decide) (by omega) (by omega) (fun h63 => ?_) (fun h63 => ?_)
      · refine z_lconst X dX0_sixteenBits_82 0 rfl ?_
        have e3 : zsum 1073741824 (fun j => m (q + 1) (P + j)) (n - P) = m (q + 1) P + 0 * 1073741824 := by
          rw [zsum_tail (by omega), show n - (P + 1) = 0 by omega]
          simp [zsum]
        refine z_ladd X dX0_sixteenBits_83 ?_
        refine z_lstore X dX0_sixteenBits_84 (fun y => [_, _, _, _, _, _, _, _, some (vl y), _]) (by decide) (fun _ => rfl) (fun pr hpr => ?_)
        refine z_lload X dX0_sixteenBits_86 rfl ?_
        refine z_iload X dX0_sixteenBits_88 rfl ?_
        refine z_lshr X dX0_sixteenBits_90 (s) (((2 ^ s : Nat) : Int)) rfl (by omega) rfl (by omega) ?_
        refine z_ldc2 X dX0_sixteenBits_91 q_X0_71 (65535) (by decide) ?_
        refine z_land X dX0_sixteenBits_94 16 (by omega) (by decide) 65536 (by decide) ?_
        refine z_l2i X dX0_sixteenBits_95 ?_
        refine z_ireturn (st := []) X rfl hQ dX0_sixteenBits_96 ⟨rfl, _, rfl, ?_⟩
        refine ⟨rfl, ?_⟩
        rw [key, e3, hpr]
        simp
      · refine z_aload_n X dX0_sixteenBits_66 rfl ?_
        refine z_getR X dX0_sixteenBits_67 f_X0_9 rfl (by assumption) (by assumption) ?_
        refine z_iload X dX0_sixteenBits_70 rfl ?_
        refine z_iconst X dX0_sixteenBits_72 ?_
        refine z_iadd X dX0_sixteenBits_73 ?_
        have e2 := q3 (P + 1) (by omega)
        refine z_iald X (P + 1) dX0_sixteenBits_74 (by omega) (by assumption) (by omega) (by omega) ?_
        refine z_i2l X dX0_sixteenBits_75 (by omega) ?_
        refine z_bipush X dX0_sixteenBits_76 (by decide) ?_
        refine z_lshl X dX0_sixteenBits_78 30 1073741824 rfl (by decide) (by decide) ?_
        refine z_goto X dX0_sixteenBits_79 83 (by decide) ?_
        have e3 : zsum 1073741824 (fun j => m (q + 1) (P + j)) (n - P) = m (q + 1) P + m (q + 1) (P + 1) * 1073741824 + 1152921504606846976 * zsum 1073741824 (fun j => m (q + 1) (P + 1 + 1 + j)) (n - (P + 1 + 1)) := by
          rw [zsum_tail (by omega), zsum_tail (r := P + 1) (by omega)]
          omega
        refine z_ladd X dX0_sixteenBits_83 ?_
        refine z_lstore X dX0_sixteenBits_84 (fun y => [_, _, _, _, _, _, _, _, some (vl y), _]) (by decide) (fun _ => rfl) (fun pr hpr => ?_)
        refine z_lload X dX0_sixteenBits_86 rfl ?_
        refine z_iload X dX0_sixteenBits_88 rfl ?_
        refine z_lshr X dX0_sixteenBits_90 (s) (((2 ^ s : Nat) : Int)) rfl (by omega) rfl (by omega) ?_
        refine z_ldc2 X dX0_sixteenBits_91 q_X0_71 (65535) (by decide) ?_
        refine z_land X dX0_sixteenBits_94 16 (by omega) (by decide) 65536 (by decide) ?_
        refine z_l2i X dX0_sixteenBits_95 ?_
        refine z_ireturn (st := []) X rfl hQ dX0_sixteenBits_96 ⟨rfl, _, rfl, ?_⟩
        refine ⟨rfl, ?_⟩
        rw [key, e3, zbits_low hs29, hpr]
    · refine z_iconst X dX0_sixteenBits_40 ?_
      refine z_ireturn (st := []) X rfl hQ dX0_sixteenBits_41 ⟨rfl, _, rfl, ?_⟩
      refine ⟨rfl, ?_⟩
      rw [key, show n - P = 0 by omega]
      simp [zsum]
theorem zl_takeAway {E : zCx} {rm : Room} {cs : Nat × Nat} {A : zA} (X : zOK E cX0_takeAway RX0 9 (some .long) rm) {q N x M n k : Nat} {g : Int} (hA : zbigA A q N) (hB : zbigA A x M) (hne : x ≠ q) {m0 : zM} (hq : zraw m0 q N n) (hx : zraw m0 x M k) (hkn : k ≤ n) (hg : 0 ≤ g ∧ g < 1073741824) : ∀ (r i : Nat) (m : zM) (c : Int) (l7 : Option Value), i + r = k → (∀ a j, a ≠ q + 1 ∨ i ≤ j → m a j = m0 a j) → (∀ j, j < i → 0 ≤ m (q + 1) j ∧ m (q + 1) j < 1073741824) → -g ≤ c → c ≤ 0 → zsum 1073741824 (m (q + 1)) i + c * 1073741824 ^ i = zsum 1073741824 (m0 (q + 1)) i - g * zsum 1073741824 (m0 (x + 1)) i →
    (∀ (m' : zM) (c : Int) (l7 : Option Value), (∀ a j, a ≠ q + 1 ∨ k ≤ j → m' a j = m0 a j) → (∀ j, j < k → 0 ≤ m' (q + 1) j ∧ m' (q + 1) j < 1073741824) → -g ≤ c → c ≤ 0 → zsum 1073741824 (m' (q + 1)) k + c * 1073741824 ^ k = zsum 1073741824 (m0 (q + 1)) k - g * zsum 1073741824 (m0 (x + 1)) k → zW E cs A m' 75 [some (vr q), some (vl g), none, some (vr x), some (vl c), none, some (vi (k : Int)), l7, none] []) → zW E cs A m 6 [some (vr q), some (vl g), none, some (vr x), some (vl c), none, some (vi (i : Int)), l7, none] [] := by
  obtain ⟨hx1, hx2⟩ := zbigA.ap hA hB hne
  obtain ⟨hA1, hA2, hA3, hN, hN2⟩ := id hA
  obtain ⟨hB1, hB2, hB3, hM, hM2⟩ := id hB
  obtain ⟨q1, q2, q3⟩ := hq
  obtain ⟨x1, x2, x3⟩ := hx
  intro r
  induction r with
  | zero =>
    intro i m c l7 hi h1 h3 hc0 hc1 hs K
    obtain rfl : i = k := by omega
    have e2 : m x 1 = (i : Int) := (h1 x 1 (by omega)).trans x1
    refine z_iload X dX0_takeAway_6 rfl ?_
    refine z_aload_n X dX0_takeAway_8 rfl ?_
    refine z_getI X dX0_takeAway_9 f_X0_15 rfl (by assumption) ?_
    refine z_icmp_ge X dX0_takeAway_12 75 (by decide) (by omega) (by omega) (fun h12 => ?_) (fun h12 => ?_)
    · exact K m c l7 h1 h3 hc0 hc1 hs
    · exact absurd h12 (by omega)
  | succ r ih =>
    intro i m c l7 hi h1 h3 hc0 hc1 hs K
    have e1 : m q 1 = (n : Int) := (h1 q 1 (by omega)).trans q1
    have e2 : m x 1 = (k : Int) := (h1 x 1 (by omega)).trans x1
    have e3 := h1 (q + 1) i (by omega)
    have e4 := h1 (x + 1) i (by omega)
    have e5 := q3 i (by omega)
    have e6 := x3 i (by omega)
    have e7 : 0 ≤ g * m (x + 1) i := Int.mul_nonneg hg.1 (by omega)
    have e8 : g * m (x + 1) i ≤ g * 1073741823 := Int.mul_le_mul_of_nonneg_left (by omega) hg.1
    refine z_iload X dX0_takeAway_6 rfl ?_
    refine z_aload_n X dX0_takeAway_8 rfl ?_
    refine z_getI X dX0_takeAway_9 f_X0_15 rfl (by assumption) ?_
    refine z_icmp_ge X dX0_takeAway_12 75 (by decide) (by omega) (by omega) (fun h12 => ?_) (fun h12 => ?_)
    · exact absurd h12 (by omega)
    · refine z_iload X dX0_takeAway_15 rfl ?_
      refine z_aload_n X dX0_takeAway_17 rfl ?_
      refine z_getI X dX0_takeAway_18 f_X0_15 rfl (by assumption) ?_
      refine z_icmp_ge X dX0_takeAway_21 75 (by decide) (by omega) (by omega) (fun h21 => ?_) (fun h21 => ?_)
      · exact absurd h21 (by omega)
      · refine z_aload_n X dX0_takeAway_24 rfl ?_
        refine z_getR X dX0_takeAway_25 f_X0_9 rfl (by assumption) (by assumption) ?_
        refine z_iload X dX0_takeAway_28 rfl ?_
        refine z_iald X (_) dX0_takeAway_30 rfl (by assumption) (by omega) (by omega) ?_
        refine z_i2l X dX0_takeAway_31 (by omega) ?_
        refine z_lload X dX0_takeAway_32 rfl ?_
        refine z_ladd X dX0_takeAway_34 ?_
        refine z_lload_n X dX0_takeAway_35 rfl ?_
        refine z_aload_n X dX0_takeAway_36 rfl ?_
        refine z_getR X dX0_takeAway_37 f_X0_9 rfl (by assumption) (by assumption) ?_
        refine z_iload X dX0_takeAway_40 rfl ?_
        refine z_iald X (_) dX0_takeAway_42 rfl (by assumption) (by omega) (by omega) ?_
        refine z_i2l X dX0_takeAway_43 (by omega) ?_
        refine z_lmul X dX0_takeAway_44 ?_
        refine z_lsub X dX0_takeAway_45 ?_
        refine z_lstore X dX0_takeAway_46 (fun y => [_, _, _, _, _, _, _, some (vl y), _]) (by decide) (fun _ => rfl) (fun z hz => ?_)
        refine z_aload_n X dX0_takeAway_48 rfl ?_
        refine z_getR X dX0_takeAway_49 f_X0_9 rfl (by assumption) (by assumption) ?_
        refine z_iload X dX0_takeAway_52 rfl ?_
        refine z_lload X dX0_takeAway_54 rfl ?_
        refine z_ldc2 X dX0_takeAway_56 q_X0_40 (1073741823) (by decide) ?_
        refine z_land X dX0_takeAway_59 30 (by omega) (by decide) 1073741824 (by decide) ?_
        refine z_l2i X dX0_takeAway_60 ?_
        refine z_iast X (_) dX0_takeAway_61 rfl (by assumption) (by omega) (by omega) ?_
        refine z_lload X dX0_takeAway_62 rfl ?_
        refine z_bipush X dX0_takeAway_64 (by decide) ?_
        refine z_lshr X dX0_takeAway_66 30 1073741824 rfl (by decide) (by decide) (by omega) ?_
        refine z_lstore X dX0_takeAway_67 (fun y => [_, _, _, _, some (vl y), _, _, _, _]) (by decide) (fun _ => rfl) (fun c2 hc2 => ?_)
        refine z_iinc X dX0_takeAway_69 rfl (fun y => [_, _, _, _, _, _, some (vi y), _, _]) (fun _ => rfl) (fun x6_69 hx6_69 => ?_)
        obtain rfl : x6_69 = ((i + 1 : Nat) : Int) := by omega
        refine z_goto X dX0_takeAway_72 6 (by decide) ?_
        refine ih (i + 1) _ c2 _ (by omega) (fun a j ha => by rw [zms_ne _ _ _ _ (by omega)]; exact h1 a j (by omega)) (fun j hj => ?_) (by omega) (by omega) ?_ K
        · by_cases hji : j = i
          · rw [hji, zms_same]; omega
          · rw [zms_nk _ _ _ _ _ hji]; exact h3 j (by omega)
        · have e7 : zsum 1073741824 (zms m (q + 1) i (z % 1073741824) (q + 1)) i = zsum 1073741824 (m (q + 1)) i := zsum_congr (fun j hj => zms_nk _ _ _ _ _ (by omega))
          have e9 : z = z % 1073741824 + c2 * 1073741824 := by omega
          rw [zsum_s, zsum_s, zsum_s, zms_same, e7, Int.pow_succ]
          rw [e4, e3] at hz
          grind
theorem c_X0_takeAway (G : zG) {A : zA} {m : zM} {q N x M n k : Nat} {g : Int} (hA : zbigA A q N) (hB : zbigA A x M) (hne : x ≠ q) (hq : zraw m q N n) (hx : zraw m x M k) (hkn : k ≤ n) (hg : 0 ≤ g ∧ g < 1073741824) : zMet G k_X0_takeAway [vr q, vl g, vr x] A m (zpl A (fun c m' => (∀ a j, a ≠ q + 1 ∨ k ≤ j → m' a j = m a j) ∧ (∀ j, j < k → 0 ≤ m' (q + 1) j ∧ m' (q + 1) j < 1073741824) ∧ (-g ≤ c ∧ c ≤ 0) ∧ zsum 1073741824 (m' (q + 1)) k + c * 1073741824 ^ k = zsum 1073741824 (m (q + 1)) k - g * zsum 1073741824 (m (x + 1)) k)) := by
  obtain ⟨hA1, hA2, hA3, hN, hN2⟩ := id hA
  obtain ⟨hB1, hB2, hB3, hM, hM2⟩ := id hB
  refine zMet.of RX0 rfl (by decide +kernel) (Nat.le_of_ble_eq_true rfl) [some (vr q), some (vl g), none, some (vr x), none, none, none, none, none] rfl (fun E hG X hQ hNm => ?_)
  subst hG
  refine z_lconst X dX0_takeAway_0 0 rfl ?_
  refine z_lstore X dX0_takeAway_1 (fun y => [_, _, _, _, some (vl y), _, _, _, _]) (by decide) (fun _ => rfl) (fun x4_1 hx4_1 => ?_)
  subst hx4_1
  refine z_iconst X dX0_takeAway_3 ?_
  refine z_istore X dX0_takeAway_4 (fun y => [_, _, _, _, _, _, some (vi y), _, _]) (by decide) (fun _ => rfl) (fun x6_4 hx6_4 => ?_)
  subst hx6_4
  refine zl_takeAway X hA hB hne hq hx hkn hg k 0 m 0 none (by omega) (fun _ _ _ => rfl) (fun j hj => absurd hj (by omega)) (by omega) (by omega) (by simp [zsum]) (fun m' c l7 h1 h2 hc0 hc1 hs => ?_)
  refine z_lload X dX0_takeAway_75 rfl ?_
  refine z_lreturn (st := []) X rfl hQ dX0_takeAway_77 ⟨rfl, _, rfl, ?_⟩
  exact ⟨h1, h2, ⟨hc0, hc1⟩, hs⟩
theorem zl_putBack {E : zCx} {rm : Room} {cs : Nat × Nat} {A : zA} (X : zOK E cX0_putBack RX0 5 (some .int) rm) {q N x M n k : Nat} (hA : zbigA A q N) (hB : zbigA A x M) (hne : x ≠ q) {m0 : zM} (q1 : m0 q 1 = (n : Int)) (q2 : n ≤ N) (q3 : ∀ j, j < k → 0 ≤ m0 (q + 1) j ∧ m0 (q + 1) j < 1073741824) (hx : zraw m0 x M k) (hkn : k ≤ n) : ∀ (r i : Nat) (m : zM) (c : Int) (l4 : Option Value), i + r = k → (∀ a j, a ≠ q + 1 ∨ i ≤ j → m a j = m0 a j) → (∀ j, j < i → 0 ≤ m (q + 1) j ∧ m (q + 1) j < 1073741824) → 0 ≤ c → c ≤ 1 → zsum 1073741824 (m (q + 1)) i + c * 1073741824 ^ i = zsum 1073741824 (m0 (q + 1)) i + zsum 1073741824 (m0 (x + 1)) i →
    (∀ (m' : zM) (c : Int) (l4 : Option Value), (∀ a j, a ≠ q + 1 ∨ k ≤ j → m' a j = m0 a j) → (∀ j, j < k → 0 ≤ m' (q + 1) j ∧ m' (q + 1) j < 1073741824) → 0 ≤ c → c ≤ 1 → zsum 1073741824 (m' (q + 1)) k + c * 1073741824 ^ k = zsum 1073741824 (m0 (q + 1)) k + zsum 1073741824 (m0 (x + 1)) k → zW E cs A m' 60 [some (vr q), some (vr x), some (vi c), some (vi (k : Int)), l4] []) → zW E cs A m 4 [some (vr q), some (vr x), some (vi c), some (vi (i : Int)), l4] [] := by
  obtain ⟨hx1, hx2⟩ := zbigA.ap hA hB hne
  obtain ⟨hA1, hA2, hA3, hN, hN2⟩ := id hA
  obtain ⟨hB1, hB2, hB3, hM, hM2⟩ := id hB
  obtain ⟨x1, x2, x3⟩ := hx
  intro r
  induction r with
  | zero =>
    intro i m c l4 hi h1 h3 hc0 hc1 hs K
    obtain rfl : i = k := by omega
    have e2 : m x 1 = (i : Int) := (h1 x 1 (by omega)).trans x1
    refine z_iload_n X dX0_putBack_4 rfl ?_
    refine z_aload_n X dX0_putBack_5 rfl ?_
    refine z_getI X dX0_putBack_6 f_X0_15 rfl (by assumption) ?_
    refine z_icmp_ge X dX0_putBack_9 60 (by decide) (by omega) (by omega) (fun h9 => ?_) (fun h9 => ?_)
    · exact K m c l4 h1 h3 hc0 hc1 hs
    · exact absurd h9 (by omega)
  | succ r ih =>
    intro i m c l4 hi h1 h3 hc0 hc1 hs K
    have e1 : m q 1 = (n : Int) := (h1 q 1 (by omega)).trans q1
    have e2 : m x 1 = (k : Int) := (h1 x 1 (by omega)).trans x1
    have e3 := h1 (q + 1) i (by omega)
    have e4 := h1 (x + 1) i (by omega)
    have e5 := q3 i (by omega)
    have e6 := x3 i (by omega)
    refine z_iload_n X dX0_putBack_4 rfl ?_
    refine z_aload_n X dX0_putBack_5 rfl ?_
    refine z_getI X dX0_putBack_6 f_X0_15 rfl (by assumption) ?_
    refine z_icmp_ge X dX0_putBack_9 60 (by decide) (by omega) (by omega) (fun h9 => ?_) (fun h9 => ?_)
    · exact absurd h9 (by omega)
    · refine z_iload_n X dX0_putBack_12 rfl ?_
      refine z_aload_n X dX0_putBack_13 rfl ?_
      refine z_getI X dX0_putBack_14 f_X0_15 rfl (by assumption) ?_
      refine z_icmp_ge X dX0_putBack_17 60 (by decide) (by omega) (by omega) (fun h17 => ?_) (fun h17 => ?_)
      · exact absurd h17 (by omega)
      · refine z_aload_n X dX0_putBack_20 rfl ?_
        refine z_getR X dX0_putBack_21 f_X0_9 rfl (by assumption) (by assumption) ?_
        refine z_iload_n X dX0_putBack_24 rfl ?_
        refine z_iald X (_) dX0_putBack_25 rfl (by assumption) (by omega) (by omega) ?_
        refine z_iload_n X dX0_putBack_26 rfl ?_
        refine z_iadd X dX0_putBack_27 ?_
        refine z_aload_n X dX0_putBack_28 rfl ?_
        refine z_getR X dX0_putBack_29 f_X0_9 rfl (by assumption) (by assumption) ?_
        refine z_iload_n X dX0_putBack_32 rfl ?_
        refine z_iald X (_) dX0_putBack_33 rfl (by assumption) (by omega) (by omega) ?_
        refine z_iadd X dX0_putBack_34 ?_
        refine z_istore X dX0_putBack_35 (fun y => [_, _, _, _, some (vi y)]) (by decide) (fun _ => rfl) (fun z hz => ?_)
        refine z_aload_n X dX0_putBack_37 rfl ?_
        refine z_getR X dX0_putBack_38 f_X0_9 rfl (by assumption) (by assumption) ?_
        refine z_iload_n X dX0_putBack_41 rfl ?_
        refine z_iload X dX0_putBack_42 rfl ?_
        refine z_ldc X dX0_putBack_44 q_X0_66 (1073741823) (by decide) ?_
        refine z_iand X dX0_putBack_46 30 (by omega) (by decide) 1073741824 (by decide) ?_
        refine z_iast X (_) dX0_putBack_47 rfl (by assumption) (by omega) (by omega) ?_
        refine z_iload X dX0_putBack_48 rfl ?_
        refine z_bipush X dX0_putBack_50 (by decide) ?_
        refine z_iushr X dX0_putBack_52 30 1073741824 rfl (by decide) (by decide) (by omega) ?_
        refine z_istore_n X dX0_putBack_53 (fun y => [_, _, some (vi y), _, _]) (by decide) (fun _ => rfl) (fun c2 hc2 => ?_)
        refine z_iinc X dX0_putBack_54 rfl (fun y => [_, _, _, some (vi y), _]) (fun _ => rfl) (fun x3_54 hx3_54 => ?_)
        obtain rfl : x3_54 = ((i + 1 : Nat) : Int) := by omega
        refine z_goto X dX0_putBack_57 4 (by decide) ?_
        refine ih (i + 1) _ c2 _ (by omega) (fun a j ha => by rw [zms_ne _ _ _ _ (by omega)]; exact h1 a j (by omega)) (fun j hj => ?_) (by omega) (by omega) ?_ K
        · by_cases hji : j = i
          · rw [hji, zms_same]; omega
          · rw [zms_nk _ _ _ _ _ hji]; exact h3 j (by omega)
        · have e7 : zsum 1073741824 (zms m (q + 1) i (z % 1073741824) (q + 1)) i = zsum 1073741824 (m (q + 1)) i := zsum_congr (fun j hj => zms_nk _ _ _ _ _ (by omega))
          have e9 : z = z % 1073741824 + c2 * 1073741824 := by omega
          rw [zsum_s, zsum_s, zsum_s, zms_same, e7, Int.pow_succ]
          rw [e4, e3] at hz
          grind
theorem c_X0_putBack (G : zG) {A : zA} {m : zM} {q N x M n k : Nat} (hA : zbigA A q N) (hB : zbigA A x M) (hne : x ≠ q) (q1 : m q 1 = (n : Int)) (q2 : n ≤ N) (q3 : ∀ j, j < k → 0 ≤ m (q + 1) j ∧ m (q + 1) j < 1073741824) (hx : zraw m x M k) (hkn : k ≤ n) : zMet G k_X0_putBack [vr q, vr x] A m (zpi A (fun c m' => (∀ a j, a ≠ q + 1 ∨ k ≤ j → m' a j = m a j) ∧ (∀ j, j < k → 0 ≤ m' (q + 1) j ∧ m' (q + 1) j < 1073741824) ∧ (0 ≤ c ∧ c ≤ 1) ∧ zsum 1073741824 (m' (q + 1)) k + c * 1073741824 ^ k = zsum 1073741824 (m (q + 1)) k + zsum 1073741824 (m (x + 1)) k)) := by
  obtain ⟨hA1, hA2, hA3, hN, hN2⟩ := id hA
  obtain ⟨hB1, hB2, hB3, hM, hM2⟩ := id hB
  refine zMet.of RX0 rfl (by decide +kernel) (Nat.le_of_ble_eq_true rfl) [some (vr q), some (vr x), none, none, none] rfl (fun E hG X hQ hNm => ?_)
  subst hG
  refine z_iconst X dX0_putBack_0 ?_
  refine z_istore_n X dX0_putBack_1 (fun y => [_, _, some (vi y), _, _]) (by decide) (fun _ => rfl) (fun x2_1 hx2_1 => ?_)
  subst hx2_1
  refine z_iconst X dX0_putBack_2 ?_
  refine z_istore_n X dX0_putBack_3 (fun y => [_, _, _, some (vi y), _]) (by decide) (fun _ => rfl) (fun x3_3 hx3_3 => ?_)
  subst hx3_3
  refine zl_putBack X hA hB hne q1 q2 q3 hx hkn k 0 m 0 none (by omega) (fun _ _ _ => rfl) (fun j hj => absurd hj (by omega)) (by omega) (by omega) (by simp [zsum]) (fun m' c l4 h1 h2 hc0 hc1 hs => ?_)
  refine z_iload_n X dX0_putBack_60 rfl ?_
  refine z_ireturn (st := []) X rfl hQ dX0_putBack_61 ⟨rfl, _, rfl, ?_⟩
  exact ⟨h1, h2, ⟨hc0, hc1⟩, hs⟩

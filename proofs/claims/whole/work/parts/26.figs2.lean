/-! Figures: firstDifference, take -/
def zdif (a b : Nat → Int) : Nat → Nat → Int
  | _, 0 => -6
  | i, n + 1 => if a i = b i then zdif a b (i + 1) n else (i : Int) + 1
theorem zl_firstDifference {E : zCx} (X : zOK E cX3_firstDifference RX3 4 (some .int) k_X3_firstDifference.2.2.2.2) {A : zA} {m : zM} {f g n k e : Nat} {S T : Int} {da db : Nat → Int} (hA : zfigA A f) (hB : zfigA A g) (hm : zfigM m f S n da) (hn : zfigM m g T k db) (he : e ≤ n ∧ e ≤ k) {R : Int} {P : Int → zM → Prop} (hQ : zRet E (zpi A P) 0 0) (hP : P R m) : ∀ (r i : Nat), i + r = e → zdif da db i r = R → zW E (0, 0) A m 60 [some (vr f), some (vr g), some (vi (e : Int)), some (vi ((i : Int) + 1))] [] := by
  obtain ⟨hA1, hA2, hA3⟩ := id hA
  obtain ⟨hB1, hB2, hB3⟩ := id hB
  obtain ⟨h1, h2, h3⟩ := id hm
  obtain ⟨g1, g2, g3⟩ := id hn
  have h2' : m f 6 = -6 ∧ n = 0 ∨ m f 6 = (n : Int) ∧ n ≤ 100 := by rw [h1]; exact h2
  intro r
  induction r with
  | zero =>
    intro i hi hR
    refine z_iload_n X dX3_firstDifference_60 rfl ?_
    refine z_iload_n X dX3_firstDifference_61 rfl ?_
    refine z_icmp_gt X dX3_firstDifference_62 86 (by decide) (by omega) (by omega) (fun h62 => ?_) (fun h62 => ?_)
    · refine z_bipush X dX3_firstDifference_86 (by decide) ?_
      refine z_ireturn (st := []) X rfl hQ dX3_firstDifference_88 ⟨rfl, _, rfl, ?_⟩
      have : R = -6 := hR.symm
      rw [this] at hP
      exact hP
    · exact absurd h62 (by omega)
  | succ r ih =>
    intro i hi hR
    unfold zdif at hR
    have b1 := zbp_bd (n := n) (dg := da) (fun j hj => (h3 j hj).2) ((i : Int) + 1)
    have b2 := zbp_bd (n := k) (dg := db) (fun j hj => (g3 j hj).2) ((i : Int) + 1)
    have a1 := zbp_at (n := n) (dg := da) (i := (i : Int) + 1) (j := i) rfl (by omega)
    have a2 := zbp_at (n := k) (dg := db) (i := (i : Int) + 1) (j := i) rfl (by omega)
    refine z_iload_n X dX3_firstDifference_60 rfl ?_
    refine z_iload_n X dX3_firstDifference_61 rfl ?_
    refine z_icmp_gt X dX3_firstDifference_62 86 (by decide) (by omega) (by omega) (fun h62 => ?_) (fun h62 => ?_)
    · exact absurd h62 (by omega)
    · refine z_aload_n X dX3_firstDifference_65 rfl ?_
      refine z_iload_n X dX3_firstDifference_66 rfl ?_
      refine z_callVi X (As := [_]) dX3_firstDifference_67 m_X3_behindPoint i_X3_behindPoint l_X3_22 (c_X3_behindPoint (zg E) hA hm (by omega)) (by first | assumption | exact zbigA.o (by assumption)) rfl rfl rfl (Nat.le_of_ble_eq_true rfl) ⟨Nat.le_of_ble_eq_true rfl, Nat.le_of_ble_eq_true rfl⟩ ⟨Nat.le_of_ble_eq_true rfl, Nat.le_of_ble_eq_true rfl⟩ ⟨rfl, rfl⟩ (fun r1 m1 hm1 => ?_)
      obtain ⟨rfl, rfl⟩ := hm1
      refine z_aload_n X dX3_firstDifference_70 rfl ?_
      refine z_iload_n X dX3_firstDifference_71 rfl ?_
      refine z_callVi X (As := [_]) dX3_firstDifference_72 m_X3_behindPoint i_X3_behindPoint l_X3_22 (c_X3_behindPoint (zg E) hB hn (by omega)) (by first | assumption | exact zbigA.o (by assumption)) rfl rfl rfl (Nat.le_of_ble_eq_true rfl) ⟨Nat.le_of_ble_eq_true rfl, Nat.le_of_ble_eq_true rfl⟩ ⟨Nat.le_of_ble_eq_true rfl, Nat.le_of_ble_eq_true rfl⟩ ⟨rfl, rfl⟩ (fun r1 m1 hm1 => ?_)
      obtain ⟨rfl, rfl⟩ := hm1
      refine z_icmp_eq X dX3_firstDifference_75 80 (by decide) (by omega) (by omega) (fun h75 => ?_) (fun h75 => ?_)
      · refine z_iinc X dX3_firstDifference_80 rfl (fun y => [_, _, _, some (vi y)]) (fun _ => rfl) (fun x3_80 hx3_80 => ?_)
        obtain rfl : x3_80 = ((i + 1 : Nat) : Int) + 1 := by omega
        refine z_goto X dX3_firstDifference_83 60 (by decide) ?_
        refine ih (i + 1) (by omega) ?_
        rw [if_pos (by omega)] at hR
        exact hR
      · refine z_iload_n X dX3_firstDifference_78 rfl ?_
        refine z_ireturn (st := []) X rfl hQ dX3_firstDifference_79 ⟨rfl, _, rfl, ?_⟩
        rw [if_neg (by omega)] at hR
        rw [hR]
        exact hP
/-- what firstDifference answers -/
def zagr (S T sa sb wa wb : Int) (da db : Nat → Int) (e : Nat) : Int := if S = -6 ∨ T = -6 then -6 else if sa ≠ sb ∨ wa ≠ wb then 0 else zdif da db 0 e
theorem c_X3_firstDifference (G : zG) {A : zA} {m : zM} {f g n k : Nat} {S T : Int} {da db : Nat → Int} (hA : zfigA A f) (hB : zfigA A g) (hm : zfigM m f S n da) (hn : zfigM m g T k db) (hs : (-1 ≤ m f 5 ∧ m f 5 ≤ 1) ∧ -1 ≤ m g 5 ∧ m g 5 ≤ 1) (hw : (0 ≤ m f 7 ∧ m f 7 < 4611686018427387904) ∧ 0 ≤ m g 7 ∧ m g 7 < 4611686018427387904) : zMet G k_X3_firstDifference [vr f, vr g] A m (zpi A (fun r m' => m = m' ∧ r = zagr S T (m f 5) (m g 5) (m f 7) (m g 7) da db (min n k))) := by
  obtain ⟨hA1, hA2, hA3⟩ := id hA
  obtain ⟨hB1, hB2, hB3⟩ := id hB
  obtain ⟨h1, h2, h3⟩ := id hm
  obtain ⟨g1, g2, g3⟩ := id hn
  have h2' : m f 6 = -6 ∧ n = 0 ∨ m f 6 = (n : Int) ∧ n ≤ 100 := by rw [h1]; exact h2
  have g2' : m g 6 = -6 ∧ k = 0 ∨ m g 6 = (k : Int) ∧ k ≤ 100 := by rw [g1]; exact g2
  refine zMet.of RX3 rfl (by decide +kernel) (Nat.le_of_ble_eq_true rfl) [some (vr f), some (vr g), none, none] rfl (fun E hG X hQ hNm => ?_)
  subst hG
  refine z_aload_n X dX3_firstDifference_0 rfl ?_
  refine z_getI X dX3_firstDifference_1 f_X3_19 rfl (by assumption) ?_
  refine z_bipush X dX3_firstDifference_4 (by decide) ?_
  refine z_icmp_eq X dX3_firstDifference_6 18 (by decide) (by omega) (by omega) (fun h6 => ?_) (fun h6 => ?_)
  · refine z_bipush X dX3_firstDifference_18 (by decide) ?_
    refine z_ireturn (st := []) X rfl hQ dX3_firstDifference_20 ⟨rfl, _, rfl, ?_⟩
    refine ⟨rfl, ?_⟩
    unfold zagr
    rw [if_pos (by omega)]
  · refine z_aload_n X dX3_firstDifference_9 rfl ?_
    refine z_getI X dX3_firstDifference_10 f_X3_19 rfl (by assumption) ?_
    refine z_bipush X dX3_firstDifference_13 (by decide) ?_
    refine z_icmp_ne X dX3_firstDifference_15 21 (by decide) (by omega) (by omega) (fun h15 => ?_) (fun h15 => ?_)
    · refine z_aload_n X dX3_firstDifference_21 rfl ?_
      refine z_getI X dX3_firstDifference_22 f_X3_30 rfl (by assumption) ?_
      refine z_aload_n X dX3_firstDifference_25 rfl ?_
      refine z_getI X dX3_firstDifference_26 f_X3_30 rfl (by assumption) ?_
      refine z_icmp_ne X dX3_firstDifference_29 44 (by decide) (by omega) (by omega) (fun h29 => ?_) (fun h29 => ?_)
      · refine z_iconst X dX3_firstDifference_44 ?_
        refine z_ireturn (st := []) X rfl hQ dX3_firstDifference_45 ⟨rfl, _, rfl, ?_⟩
        refine ⟨rfl, ?_⟩
        unfold zagr
        rw [if_neg (by omega), if_pos (by omega)]
      · refine z_aload_n X dX3_firstDifference_32 rfl ?_
        refine z_getL X dX3_firstDifference_33 f_X3_33 rfl (by assumption) ?_
        refine z_aload_n X dX3_firstDifference_36 rfl ?_
        refine z_getL X dX3_firstDifference_37 f_X3_33 rfl (by assumption) ?_
        refine z_lcmp_eq X dX3_firstDifference_40 dX3_firstDifference_41 46 (by decide) (by omega) (by omega) (fun h40 => ?_) (fun h40 => ?_)
        · refine z_aload_n X dX3_firstDifference_46 rfl ?_
          refine z_getI X dX3_firstDifference_47 f_X3_19 rfl (by assumption) ?_
          refine z_aload_n X dX3_firstDifference_50 rfl ?_
          refine z_getI X dX3_firstDifference_51 f_X3_19 rfl (by assumption) ?_
          refine z_min X dX3_firstDifference_54 l_X3_37 ms_min mi_math mc_min (by decide) (Nat.le_of_ble_eq_true rfl) ⟨Nat.le_of_ble_eq_true rfl, Nat.le_of_ble_eq_true rfl⟩ (by omega) (by omega) ?_
          refine z_istore_n X dX3_firstDifference_57 (fun y => [_, _, some (vi y), _]) (by decide) (fun _ => rfl) (fun x2_57 hx2_57 => ?_)
          refine z_iconst X dX3_firstDifference_58 ?_
          refine z_istore_n X dX3_firstDifference_59 (fun y => [_, _, _, some (vi y)]) (by decide) (fun _ => rfl) (fun x3_59 hx3_59 => ?_)
          subst hx3_59
          obtain rfl : x2_57 = ((min n k : Nat) : Int) := by omega
          refine zl_firstDifference X hA hB hm hn (by omega) hQ ⟨rfl, ?_⟩ (min n k) 0 (by omega) rfl
          unfold zagr
          rw [if_neg (by omega), if_neg (by omega)]
        · refine z_iconst X dX3_firstDifference_44 ?_
          refine z_ireturn (st := []) X rfl hQ dX3_firstDifference_45 ⟨rfl, _, rfl, ?_⟩
          refine ⟨rfl, ?_⟩
          unfold zagr
          rw [if_neg (by omega), if_pos (by omega)]
    · refine z_bipush X dX3_firstDifference_18 (by decide) ?_
      refine z_ireturn (st := []) X rfl hQ dX3_firstDifference_20 ⟨rfl, _, rfl, ?_⟩
      refine ⟨rfl, ?_⟩
      unfold zagr
      rw [if_pos (by omega)]
/-- figure i of t, of a number below b^t -/
def zdt (b D : Int) (t i : Nat) : Int := D / b ^ (t - 1 - i) % b
theorem zmod_step {b D : Int} (hb : 2 ≤ b) (e : Nat) : D % b ^ (e + 1) / b ^ e = D / b ^ e % b ∧ D % b ^ (e + 1) - D % b ^ (e + 1) / b ^ e * b ^ e = D % b ^ e := by
  have hp := zpow_pos (by omega : 0 < b) e
  have h1 : D % b ^ (e + 1) = D % b ^ e + b ^ e * (D / b ^ e % b) := by
    rw [Int.pow_succ]
    have e1 := Int.emod_add_mul_ediv D (b ^ e)
    have e2 := Int.emod_add_mul_ediv (D / b ^ e) b
    have h2 := Int.emod_nonneg D (by omega : b ^ e ≠ 0)
    have h3 := Int.emod_lt_of_pos D hp
    have h4 := Int.emod_nonneg (D / b ^ e) (by omega : b ≠ 0)
    have h5 := Int.emod_lt_of_pos (D / b ^ e) (by omega : 0 < b)
    have h6 : b ^ e * (D / b ^ e % b) ≤ b ^ e * (b - 1) := Int.mul_le_mul_of_nonneg_left (by omega) (by omega)
    have h7 : 0 ≤ b ^ e * (D / b ^ e % b) := Int.mul_nonneg (by omega) h4
    have h8 : b ^ e * (b - 1) = b ^ e * b - b ^ e := by grind
    refine ((Int.ediv_emod_unique (a := D) (b := b ^ e * b) (q := D / b ^ e / b) (r := D % b ^ e + b ^ e * (D / b ^ e % b)) (by have := Int.mul_pos hp (by omega : 0 < b); omega)).mpr ⟨?_, by omega, by omega⟩).2
    grind
  have h2 := Int.emod_nonneg D (by omega : b ^ e ≠ 0)
  have h3 := Int.emod_lt_of_pos D hp
  have h4 : D % b ^ (e + 1) / b ^ e = D / b ^ e % b := by
    rw [h1, Int.add_mul_ediv_left _ _ (by omega), Int.ediv_eq_zero_of_lt h2 h3, Int.zero_add]
  refine ⟨h4, ?_⟩
  rw [h4, h1]
  grind
theorem zl_take {E : zCx} {rm : Room} {A : zA} (X : zOK E cX3_take RX3 8 (some .boolean) rm) {f s t : Nat} {m0 : zM} {b D F : Int} {d1 d2 d3 : Int} (hA : zfigA A f) (hb : 2 ≤ b ∧ b ≤ 36) (hm2 : m0 f 2 = b) (hs : s + t ≤ 100) (hbt : b ^ t ≤ 1073741824) {P : Int → zM → Prop} (hQ : zRet E (zpi A P) 0 0)
    (hP1 : ∀ m', m' f 6 = ((s + t : Nat) : Int) → (∀ i, i < t → zdt b D t i = zdt b F t i) → (∀ a j, (a = f ∧ j = 6) ∨ a = f + 1 ∨ m' a j = m0 a j) → (∀ j, j < s → m' (f + 1) j = m0 (f + 1) j) → (∀ i, i < t → m' (f + 1) (s + i) = zdt b D t i) → P 1 m')
    (hP0 : ∀ m' j, j < t → m' f 6 = ((s + j : Nat) : Int) → (∀ i, i < j → zdt b D t i = zdt b F t i) → zdt b D t j ≠ zdt b F t j → (∀ a j, (a = f ∧ j = 6) ∨ a = f + 1 ∨ m' a j = m0 a j) → (∀ i, i < s → m' (f + 1) i = m0 (f + 1) i) → (∀ i, i < j → m' (f + 1) (s + i) = zdt b D t i) → P 0 m') :
    ∀ (r i : Nat) (m : zM) (w : Int) (l7 : Option Value), i + r = t → m f 6 = ((s + i : Nat) : Int) → (∀ k, k < i → zdt b D t k = zdt b F t k) → (∀ a j, (a = f ∧ j = 6) ∨ a = f + 1 ∨ m a j = m0 a j) → (∀ j, j < s → m (f + 1) j = m0 (f + 1) j) → (∀ k, k < i → m (f + 1) (s + k) = zdt b D t k) → (w = if r = 0 then 0 else b ^ (r - 1)) → zW E (0, 0) A m 19 [some (vr f), some (vi d1), some (vi d2), some (vi d3), some (vi (D % b ^ r)), some (vi (F % b ^ r)), some (vi w), l7] [] := by
  obtain ⟨hA1, hA2, hA3⟩ := id hA
  intro r
  induction r with
  | zero =>
    intro i m w l7 hi h6 hd hfr hold hnew hw
    obtain rfl : i = t := by omega
    rw [if_pos rfl] at hw
    subst hw
    refine z_iload X dX3_take_19 rfl ?_
    refine z_iconst X dX3_take_21 ?_
    refine z_icmp_lt X dX3_take_22 116 (by decide) (by omega) (by omega) (fun h22 => ?_) (fun h22 => ?_)
    · refine z_iconst X dX3_take_116 ?_
      refine z_zreturn (st := []) X rfl hQ dX3_take_117 (by first | exact Or.inl rfl | exact Or.inr rfl | omega) ⟨rfl, _, rfl, ?_⟩
      exact hP1 m h6 hd hfr hold hnew
    · exact absurd h22 (by omega)
  | succ r ih =>
    intro i m w l7 hi h6 hd hfr hold hnew hw
    rw [if_neg (by omega), Nat.add_sub_cancel] at hw
    subst hw
    have hp := zpow_pos (by omega : 0 < b) r
    have hp1 := zpow_pos (by omega : 0 < b) (r + 1)
    have hpt : b ^ (r + 1) ≤ b ^ t := zpow_le (by omega) (by omega)
    have hpr : b ^ r ≤ b ^ t := zpow_le (by omega) (by omega)
    have d0 := Int.emod_nonneg D (by omega : b ^ (r + 1) ≠ 0)
    have d1 := Int.emod_lt_of_pos D hp1
    have f0 := Int.emod_nonneg F (by omega : b ^ (r + 1) ≠ 0)
    have f1 := Int.emod_lt_of_pos F hp1
    obtain ⟨s1, s2⟩ := zmod_step (D := D) hb.1 r
    obtain ⟨s3, s4⟩ := zmod_step (D := F) hb.1 r
    have t1 : zdt b D t i = D / b ^ r % b := by unfold zdt; rw [show t - 1 - i = r by omega]
    have t2 : zdt b F t i = F / b ^ r % b := by unfold zdt; rw [show t - 1 - i = r by omega]
    have v0 := Int.emod_nonneg (D / b ^ r) (by omega : b ≠ 0)
    have v1 := Int.emod_lt_of_pos (D / b ^ r) (by omega : 0 < b)
    have v2 := Int.emod_nonneg (F / b ^ r) (by omega : b ≠ 0)
    have v3 := Int.emod_lt_of_pos (F / b ^ r) (by omega : 0 < b)
    have hb2 : m f 2 = b := by have := hfr f 2; omega
    refine z_iload X dX3_take_19 rfl ?_
    refine z_iconst X dX3_take_21 ?_
    refine z_icmp_lt X dX3_take_22 116 (by decide) (by omega) (by omega) (fun h22 => ?_) (fun h22 => ?_)
    · exact absurd h22 (by omega)
    · refine z_iload X dX3_take_25 rfl ?_
      refine z_iload X dX3_take_27 rfl ?_
      refine z_idiv X dX3_take_29 (by omega) (by omega) ?_
      refine z_istore X dX3_take_30 (fun y => [_, _, _, _, _, _, _, some (vi y)]) (by decide) (fun _ => rfl) (fun x hx => ?_)
      refine z_iload X dX3_take_32 rfl ?_
      refine z_iload X dX3_take_34 rfl ?_
      refine z_iload X dX3_take_36 rfl ?_
      refine z_idiv X dX3_take_38 (by omega) (by omega) ?_
      refine z_icmp_ne X dX3_take_39 61 (by decide) (by omega) (by omega) (fun h39 => ?_) (fun h39 => ?_)
      · refine z_iconst X dX3_take_61 ?_
        refine z_zreturn (st := []) X rfl hQ dX3_take_62 (by first | exact Or.inl rfl | exact Or.inr rfl | omega) ⟨rfl, _, rfl, ?_⟩
        exact hP0 m i (by omega) h6 hd (by rw [t1, t2, ← s1, ← s3, ← hx]; exact h39) hfr hold hnew
      · refine z_aload_n X dX3_take_42 rfl ?_
        refine z_getI X dX3_take_43 f_X3_19 rfl (by assumption) ?_
        refine z_if_lt X dX3_take_46 61 (by decide) (by omega) (fun h46 => ?_) (fun h46 => ?_)
        · refine z_iconst X dX3_take_61 ?_
          refine z_zreturn (st := []) X rfl hQ dX3_take_62 (by first | exact Or.inl rfl | exact Or.inr rfl | omega) ⟨rfl, _, rfl, ?_⟩
          exact absurd h46 (by omega)
        · refine z_aload_n X dX3_take_49 rfl ?_
          refine z_getI X dX3_take_50 f_X3_19 rfl (by assumption) ?_
          refine z_aload_n X dX3_take_53 rfl ?_
          refine z_getR X dX3_take_54 f_X3_9 rfl (by assumption) (by assumption) ?_
          refine z_alen X dX3_take_57 (by assumption) ?_
          refine z_icmp_lt X dX3_take_58 63 (by decide) (by omega) (by omega) (fun h58 => ?_) (fun h58 => ?_)
          · refine z_aload_n X dX3_take_63 rfl ?_
            refine z_getR X dX3_take_64 f_X3_9 rfl (by assumption) (by assumption) ?_
            refine z_aload_n X dX3_take_67 rfl ?_
            refine z_getI X dX3_take_68 f_X3_19 rfl (by assumption) ?_
            refine z_iload X dX3_take_71 rfl ?_
            refine z_iast X (s + i) dX3_take_73 (by omega) (by assumption) (by omega) (by omega) ?_
            refine z_aload_n X dX3_take_74 rfl ?_
            refine z_dup X dX3_take_75 rfl ?_
            refine z_getI X dX3_take_76 f_X3_19 rfl (by assumption) ?_
            refine z_iconst X dX3_take_79 ?_
            refine z_iadd X dX3_take_80 ?_
            skip
            refine z_putI X dX3_take_81 f_X3_19 rfl rfl (by assumption) ?_
            refine z_iload X dX3_take_84 rfl ?_
            refine z_iload X dX3_take_86 rfl ?_
            refine z_iload X dX3_take_88 rfl ?_
            refine z_imul X dX3_take_90 ?_
            refine z_isub X dX3_take_91 ?_
            refine z_istore X dX3_take_92 (fun y => [_, _, _, _, some (vi y), _, _, _]) (by decide) (fun _ => rfl) (fun lo hlo => ?_)
            refine z_iload X dX3_take_94 rfl ?_
            refine z_iload X dX3_take_96 rfl ?_
            refine z_iload X dX3_take_98 rfl ?_
            refine z_imul X dX3_take_100 ?_
            refine z_isub X dX3_take_101 ?_
            refine z_istore X dX3_take_102 (fun y => [_, _, _, _, _, some (vi y), _, _]) (by decide) (fun _ => rfl) (fun hi2 hhi2 => ?_)
            have heq : D % b ^ (r + 1) / b ^ r = F % b ^ (r + 1) / b ^ r := by rw [← hx]; omega
            rw [hx, s2] at hlo
            rw [hx, heq, s4] at hhi2
            have hb3 : zms (zms m (f + 1) (s + i) x) f 6 (zms m (f + 1) (s + i) x f 6 + 1) f 2 = b := by rw [zms_nk _ _ _ _ _ (by omega), zms_nq _ _ _ _ _ (by omega)]; exact hb2
            refine z_iload X dX3_take_104 rfl ?_
            refine z_aload_n X dX3_take_106 rfl ?_
            refine z_getI X dX3_take_107 f_X3_15 rfl (by assumption) ?_
            refine z_idiv X dX3_take_110 (by omega) (by omega) ?_
            refine z_istore X dX3_take_111 (fun y => [_, _, _, _, _, _, some (vi y), _]) (by decide) (fun _ => rfl) (fun w2 hw2 => ?_)
            refine z_goto X dX3_take_113 19 (by decide) ?_
            subst hlo
            subst hhi2
            refine ih (i + 1) _ w2 _ (by omega) ?_ (fun k hk => ?_) (fun a j => ?_) (fun j hj => ?_) (fun k hk => ?_) ?_
            · rw [zms_same, zms_nq _ _ _ _ _ (by omega), h6]; omega
            · by_cases hki : k = i
              · rw [hki, t1, t2, ← s1, ← s3]; exact heq
              · exact hd k (by omega)
            · by_cases h1 : (a = f ∧ j = 6) ∨ a = f + 1
              · omega
              · rw [zms_ne _ _ _ _ (by omega), zms_ne _ _ _ _ (by omega)]; exact hfr a j
            · rw [zms_nq _ _ _ _ _ (by omega), zms_nk _ _ _ _ _ (by omega)]; exact hold j hj
            · by_cases hki : k = i
              · rw [hki, zms_nq _ _ _ _ _ (by omega), zms_same, t1, ← s1]; exact hx
              · rw [zms_nq _ _ _ _ _ (by omega), zms_nk _ _ _ _ _ (by omega)]; exact hnew k (by omega)
            · rw [hw2, hb3]
              by_cases hr0 : r = 0
              · rw [if_pos hr0, hr0, Int.pow_zero]; exact Int.ediv_eq_zero_of_lt (by omega) (by omega)
              · rw [if_neg hr0]
                obtain ⟨d, rfl⟩ : ∃ d, r = d + 1 := ⟨r - 1, by omega⟩
                rw [Int.pow_succ, Int.mul_ediv_cancel _ (by omega)]
                rfl
          · refine z_iconst X dX3_take_61 ?_
            refine z_zreturn (st := []) X rfl hQ dX3_take_62 (by first | exact Or.inl rfl | exact Or.inr rfl | omega) ⟨rfl, _, rfl, ?_⟩
            exact absurd h58 (by omega)
theorem c_X3_take (G : zG) {A : zA} {m : zM} {f s t : Nat} {b D F w : Int} (hA : zfigA A f) (hb : 2 ≤ b ∧ b ≤ 36) (hm2 : m f 2 = b) (hm6 : m f 6 = (s : Int)) (ht : 1 ≤ t) (hs : s + t ≤ 100) (hbt : b ^ t ≤ 1073741824) (hD : 0 ≤ D ∧ D < b ^ t) (hF : 0 ≤ F ∧ F < b ^ t) (hw : w = b ^ (t - 1)) : zMet G k_X3_take [vr f, vi D, vi F, vi w] A m (zpi A (fun r m' => (∀ a j, (a = f ∧ j = 6) ∨ a = f + 1 ∨ m' a j = m a j) ∧ (∀ j, j < s → m' (f + 1) j = m (f + 1) j) ∧ ∃ j, j ≤ t ∧ m' f 6 = ((s + j : Nat) : Int) ∧ (∀ i, i < j → zdt b D t i = zdt b F t i) ∧ (∀ i, i < j → m' (f + 1) (s + i) = zdt b D t i) ∧ ((j = t ∧ r = 1) ∨ (j < t ∧ r = 0 ∧ zdt b D t j ≠ zdt b F t j)))) := by
  obtain ⟨hA1, hA2, hA3⟩ := id hA
  refine zMet.of RX3 rfl (by decide +kernel) (Nat.le_of_ble_eq_true rfl) [some (vr f), some (vi D), some (vi F), some (vi w), none, none, none, none] rfl (fun E hG X hQ hNm => ?_)
  subst hG
  refine z_iload_n X dX3_take_0 rfl ?_
  refine z_istore X dX3_take_1 (fun y => [_, _, _, _, some (vi y), _, _, _]) (by decide) (fun _ => rfl) (fun D hx1 => ?_)
  subst hx1
  refine z_iload_n X dX3_take_3 rfl ?_
  refine z_istore X dX3_take_4 (fun y => [_, _, _, _, _, some (vi y), _, _]) (by decide) (fun _ => rfl) (fun F hx2 => ?_)
  subst hx2
  refine z_aload_n X dX3_take_6 rfl ?_
  refine z_getI X dX3_take_7 f_X3_15 rfl (by assumption) ?_
  refine z_iconst X dX3_take_10 ?_
  refine z_icmp_ge X dX3_take_11 16 (by decide) (by omega) (by omega) (fun h11 => ?_) (fun h11 => ?_)
  · refine z_iload_n X dX3_take_16 rfl ?_
    refine z_istore X dX3_take_17 (fun y => [_, _, _, _, _, _, some (vi y), _]) (by decide) (fun _ => rfl) (fun w hx3 => ?_)
    subst hx3
    have e1 := Int.emod_eq_of_lt hD.1 hD.2
    have e2 := Int.emod_eq_of_lt hF.1 hF.2
    rw [← e1, ← e2]
    refine zl_take X hA hb hm2 hs hbt (D := D) (F := F) hQ (fun m' g1 g2 g3 g4 g5 => ⟨g3, g4, t, Nat.le_refl _, g1, g2, g5, Or.inl ⟨rfl, rfl⟩⟩) (fun m' j g0 g1 g2 g3 g4 g5 g6 => ⟨g4, g5, j, by omega, g1, g2, g6, Or.inr ⟨g0, rfl, g3⟩⟩) t 0 m _ none (by omega) hm6 (fun k hk => absurd hk (by omega)) (fun _ _ => Or.inr (Or.inr rfl)) (fun _ _ => rfl) (fun k hk => absurd hk (by omega)) (by rw [if_neg (by omega)]; exact hw)
  · refine z_iconst X dX3_take_14 ?_
    refine z_zreturn (st := []) X rfl hQ dX3_take_15 (by first | exact Or.inl rfl | exact Or.inr rfl | omega) ⟨rfl, _, rfl, ?_⟩
    exact absurd h11 (by omega)

/-! What a sum is: its rules, its bound; where it falls -/
def zpval (c : Nat → Nat → Int) (w k : Nat) : Int := if k = 0 ∧ w ≤ 1 then 1 else c w 0 + (k : Int) * (c w 1 + (k : Int) * c w 2)
def zcoef (c : Nat → Nat → Int) : Prop := ∀ w j, w < 4 → j < 3 → -999 ≤ c w j ∧ c w j ≤ 999
theorem zmul_bd {a b A B : Int} (ha : -A ≤ a ∧ a ≤ A) (hb : -B ≤ b ∧ b ≤ B) (hA : 0 ≤ A) (hB : 0 ≤ B) : -(A * B) ≤ a * b ∧ a * b ≤ A * B := by
  have h1 : a * b ≤ (a.natAbs : Int) * (b.natAbs : Int) := by rw [← Int.natCast_mul, ← Int.natAbs_mul]; omega
  have h2 : -((a.natAbs : Int) * (b.natAbs : Int)) ≤ a * b := by rw [← Int.natCast_mul, ← Int.natAbs_mul]; omega
  have h3 : (a.natAbs : Int) * (b.natAbs : Int) ≤ A * B := Int.mul_le_mul (by omega) (by omega) (by omega) hA
  omega
theorem zpval_bd {c : Nat → Nat → Int} (hc : zcoef c) {w k : Nat} (hw : w < 4) (hk : k < 100) : -9891099 ≤ zpval c w k ∧ zpval c w k ≤ 9891099 := by
  unfold zpval
  split
  · omega
  · have h0 := hc w 0 hw (by omega)
    have h1 := hc w 1 hw (by omega)
    have h2 := hc w 2 hw (by omega)
    have hk2 : -99 ≤ (k : Int) ∧ (k : Int) ≤ 99 := by omega
    have h3 := zmul_bd (A := 99) (B := 999) hk2 ⟨h2.1, h2.2⟩ (by omega) (by omega)
    have h4 := zmul_bd (A := 99) (B := 99900) hk2 (b := c w 1 + (k : Int) * c w 2) (by omega) (by omega) (by omega)
    omega
abbrev zsteep (c : Nat → Nat → Int) (u v : Int) (k : Nat) : Prop := ((zpval c 1 k * zpval c 3 k).natAbs : Int) * ((zpval c 2 (k - 1) * u).natAbs : Int) < ((zpval c 0 k * zpval c 2 k).natAbs : Int) * ((zpval c 3 (k - 1) * v).natAbs : Int)
abbrev zfalls (c : Nat → Nat → Int) (u v : Int) (start k : Nat) : Prop := zpval c 1 k = 0 ∨ zpval c 3 k = 0 ∨ (start < k ∧ zsteep c u v k)
def zff (c : Nat → Nat → Int) (u v : Int) (start : Nat) : Nat → Nat → Int
  | _, 0 => -6
  | k, n + 1 => if zfalls c u v start k then (k : Int) else zff c u v start (k + 1) n
theorem zff_range {c : Nat → Nat → Int} {u v : Int} {start : Nat} : ∀ (n k : Nat), zff c u v start k n = -6 ∨ ∃ j : Nat, zff c u v start k n = (j : Int) ∧ k ≤ j ∧ j < k + n
  | 0, _ => Or.inl rfl
  | n + 1, k => by
    unfold zff
    split
    · exact Or.inr ⟨k, rfl, by omega, by omega⟩
    · rcases zff_range n (k + 1) with h | ⟨j, h1, h2, h3⟩
      · exact Or.inl h
      · exact Or.inr ⟨j, h1, by omega, by omega⟩
/-! the class's Sum -/
def zsumA (A : zA) (s : Nat) : Prop := A.1 s = some (.inl 6) ∧ (A.2.1 s 0 = some (s + 1) ∧ A.2.1 s 1 = some (s + 2) ∧ A.2.1 s 2 = some (s + 3)) ∧ A.1 (s + 1) = some (.inr (0, 4)) ∧ A.1 (s + 2) = some (.inr (0, 4)) ∧ A.1 (s + 3) = some (.inr (0, 4))
def zsumM (m : zM) (s : Nat) (c : Nat → Nat → Int) (u v : Int) : Prop := (∀ w, w < 4 → m (s + 1) w = c w 0 ∧ m (s + 2) w = c w 1 ∧ m (s + 3) w = c w 2) ∧ m s 3 = u ∧ m s 4 = v
def zbnd (u v : Int) : Prop := 1 ≤ u ∧ u < v ∧ v ≤ 1000000
theorem c_X7_isRule (G : zG) {A : zA} {m : zM} {i : Int} (hi : -2147483648 ≤ i ∧ i < 2147483648) : zMet G k_X7_isRule [vi i] A m (zpi A (fun r m' => m = m' ∧ ((r = 1 ∧ 0 ≤ i ∧ i < 4) ∨ (r = 0 ∧ ¬ (0 ≤ i ∧ i < 4))))) := by
  refine zMet.of RX7 rfl (by decide +kernel) (Nat.le_of_ble_eq_true rfl) [some (vi i)] rfl (fun E hG X hQ hNm => ?_)
  subst hG
  refine z_iload_n X dX7_isRule_0 rfl ?_
  refine z_if_lt X dX7_isRule_1 13 (by decide) (by omega) (fun h1 => ?_) (fun h1 => ?_)
  · refine z_iconst X dX7_isRule_13 ?_
    refine z_zreturn (st := []) X rfl hQ dX7_isRule_14 (by first | exact Or.inl rfl | exact Or.inr rfl | omega) ⟨rfl, _, rfl, ?_⟩
    exact ⟨rfl, by omega⟩
  · refine z_iload_n X dX7_isRule_4 rfl ?_
    refine z_iconst X dX7_isRule_5 ?_
    refine z_icmp_ge X dX7_isRule_6 13 (by decide) (by omega) (by omega) (fun h6 => ?_) (fun h6 => ?_)
    · refine z_iconst X dX7_isRule_13 ?_
      refine z_zreturn (st := []) X rfl hQ dX7_isRule_14 (by first | exact Or.inl rfl | exact Or.inr rfl | omega) ⟨rfl, _, rfl, ?_⟩
      exact ⟨rfl, by omega⟩
    · refine z_iconst X dX7_isRule_9 ?_
      refine z_goto X dX7_isRule_10 14 (by decide) ?_
      refine z_zreturn (st := []) X rfl hQ dX7_isRule_14 (by first | exact Or.inl rfl | exact Or.inr rfl | omega) ⟨rfl, _, rfl, ?_⟩
      exact ⟨rfl, by omega⟩
theorem c_X6_value (G : zG) {A : zA} {m : zM} {s : Nat} {c : Nat → Nat → Int} {u v : Int} (hA : zsumA A s) (hm : zsumM m s c u v) (hc : zcoef c) {wi ki : Int} (w k : Nat) (hw : wi = (w : Int)) (hk : ki = (k : Int)) (hw4 : w < 4) (hk100 : k < 100) : zMet G k_X6_value [vr s, vi wi, vi ki] A m (zpi A (fun r m' => m = m' ∧ r = zpval c w k)) := by
  obtain ⟨hA1, ⟨hA2, hA3, hA4⟩, hA5, hA6, hA7⟩ := id hA
  subst hw
  subst hk
  obtain ⟨e0, e1, e2⟩ := hm.1 w hw4
  have h0 := hc w 0 hw4 (by omega)
  have h1 := hc w 1 hw4 (by omega)
  have h2 := hc w 2 hw4 (by omega)
  refine zMet.of RX6 rfl (by decide +kernel) (Nat.le_of_ble_eq_true rfl) [some (vr s), some (vi (w : Int)), some (vi (k : Int))] rfl (fun E hG X hQ hNm => ?_)
  subst hG
  refine z_iload_n X dX6_value_0 rfl ?_
  refine z_callSi X (As := [_]) dX6_value_1 m_X7_isRule s_X7_isRule l_X6_28 (c_X7_isRule (zg E) (by omega)) rfl rfl (Nat.le_of_ble_eq_true rfl) ⟨Nat.le_of_ble_eq_true rfl, Nat.le_of_ble_eq_true rfl⟩ ⟨Nat.le_of_ble_eq_true rfl, Nat.le_of_ble_eq_true rfl⟩ ⟨rfl, rfl⟩ (fun r m1 hm1 => ?_)
  obtain ⟨rfl, hr⟩ := hm1
  refine z_if_ne X dX6_value_4 9 (by decide) (by omega) (fun h4 => ?_) (fun h4 => ?_)
  · refine z_iload_n X dX6_value_9 rfl ?_
    refine z_if_ne X dX6_value_10 20 (by decide) (by omega) (fun h10 => ?_) (fun h10 => ?_)
    · refine z_aload_n X dX6_value_20 rfl ?_
      refine z_getR X dX6_value_21 f_X6_9 rfl (by assumption) (by assumption) ?_
      refine z_iload_n X dX6_value_24 rfl ?_
      refine z_iald X (_) dX6_value_25 rfl (by assumption) (by omega) (by omega) ?_
      refine z_iload_n X dX6_value_26 rfl ?_
      refine z_aload_n X dX6_value_27 rfl ?_
      refine z_getR X dX6_value_28 f_X6_15 rfl (by assumption) (by assumption) ?_
      refine z_iload_n X dX6_value_31 rfl ?_
      refine z_iald X (_) dX6_value_32 rfl (by assumption) (by omega) (by omega) ?_
      refine z_iload_n X dX6_value_33 rfl ?_
      refine z_aload_n X dX6_value_34 rfl ?_
      refine z_getR X dX6_value_35 f_X6_18 rfl (by assumption) (by assumption) ?_
      refine z_iload_n X dX6_value_38 rfl ?_
      refine z_iald X (_) dX6_value_39 rfl (by assumption) (by omega) (by omega) ?_
      refine z_imul X dX6_value_40 ?_
      refine z_iadd X dX6_value_41 ?_
      refine z_imul X dX6_value_42 ?_
      refine z_iadd X dX6_value_43 ?_
      refine z_ireturn (st := []) X rfl hQ dX6_value_44 ⟨rfl, _, rfl, ?_⟩
      refine ⟨rfl, ?_⟩
      unfold zpval
      rw [if_neg (by omega), e0, e1, e2]
    · refine z_iload_n X dX6_value_13 rfl ?_
      refine z_iconst X dX6_value_14 ?_
      refine z_icmp_gt X dX6_value_15 20 (by decide) (by omega) (by omega) (fun h15 => ?_) (fun h15 => ?_)
      · refine z_aload_n X dX6_value_20 rfl ?_
        refine z_getR X dX6_value_21 f_X6_9 rfl (by assumption) (by assumption) ?_
        refine z_iload_n X dX6_value_24 rfl ?_
        refine z_iald X (_) dX6_value_25 rfl (by assumption) (by omega) (by omega) ?_
        refine z_iload_n X dX6_value_26 rfl ?_
        refine z_aload_n X dX6_value_27 rfl ?_
        refine z_getR X dX6_value_28 f_X6_15 rfl (by assumption) (by assumption) ?_
        refine z_iload_n X dX6_value_31 rfl ?_
        refine z_iald X (_) dX6_value_32 rfl (by assumption) (by omega) (by omega) ?_
        refine z_iload_n X dX6_value_33 rfl ?_
        refine z_aload_n X dX6_value_34 rfl ?_
        refine z_getR X dX6_value_35 f_X6_18 rfl (by assumption) (by assumption) ?_
        refine z_iload_n X dX6_value_38 rfl ?_
        refine z_iald X (_) dX6_value_39 rfl (by assumption) (by omega) (by omega) ?_
        refine z_imul X dX6_value_40 ?_
        refine z_iadd X dX6_value_41 ?_
        refine z_imul X dX6_value_42 ?_
        refine z_iadd X dX6_value_43 ?_
        refine z_ireturn (st := []) X rfl hQ dX6_value_44 ⟨rfl, _, rfl, ?_⟩
        refine ⟨rfl, ?_⟩
        unfold zpval
        rw [if_neg (by omega), e0, e1, e2]
      · refine z_iconst X dX6_value_18 ?_
        refine z_ireturn (st := []) X rfl hQ dX6_value_19 ⟨rfl, _, rfl, ?_⟩
        refine ⟨rfl, ?_⟩
        unfold zpval
        rw [if_pos ⟨by omega, by omega⟩]
  · refine z_iconst X dX6_value_7 ?_
    refine z_ireturn (st := []) X rfl hQ dX6_value_8 ⟨rfl, _, rfl, ?_⟩
    exact absurd h4 (by omega)
theorem zdivmul {x y : Int} (hx : 0 ≤ x) (hy : 0 ≤ y) : (x / 1073741824 * (y / 1073741824)) * 1073741824 + x / 1073741824 * (y % 1073741824) + x % 1073741824 * (y / 1073741824) + (x % 1073741824 * (y % 1073741824)) / 1073741824 = x * y / 1073741824 := by
  have e1 : x = x / 1073741824 * 1073741824 + x % 1073741824 := by omega
  have e2 : y = y / 1073741824 * 1073741824 + y % 1073741824 := by omega
  generalize x / 1073741824 = a at e1
  generalize x % 1073741824 = b at e1
  generalize y / 1073741824 = c at e2
  generalize y % 1073741824 = d at e2
  have e3 : x * y = b * d + 1073741824 * (a * c * 1073741824 + a * d + b * c) := by rw [e1, e2]; grind
  rw [e3, Int.add_mul_ediv_left _ _ (by omega)]
  omega
theorem c_X6_upper (G : zG) {A : zA} {m : zM} {x y : Int} (hx : 0 ≤ x ∧ x < 1000000000000000) (hy : 0 ≤ y ∧ y < 1000000000000000) : zMet G k_X6_upper [vl x, vl y] A m (zpl A (fun r m' => m = m' ∧ r = x * y / 1073741824)) := by
  refine zMet.of RX6 rfl (by decide +kernel) (Nat.le_of_ble_eq_true rfl) [some (vl x), none, some (vl y), none, none, none, none, none, none, none, none, none] rfl (fun E hG X hQ hNm => ?_)
  subst hG
  refine z_lload_n X dX6_upper_0 rfl ?_
  refine z_bipush X dX6_upper_1 (by decide) ?_
  refine z_lshr X dX6_upper_3 30 1073741824 rfl (by decide) (by decide) (by omega) ?_
  refine z_lstore X dX6_upper_4 (fun y => [_, _, _, _, some (vl y), _, _, _, _, _, _, _]) (by decide) (fun _ => rfl) (fun a ha => ?_)
  refine z_lload_n X dX6_upper_6 rfl ?_
  refine z_bipush X dX6_upper_7 (by decide) ?_
  refine z_lshr X dX6_upper_9 30 1073741824 rfl (by decide) (by decide) (by omega) ?_
  refine z_lstore X dX6_upper_10 (fun y => [_, _, _, _, _, _, some (vl y), _, _, _, _, _]) (by decide) (fun _ => rfl) (fun b hb => ?_)
  refine z_lload_n X dX6_upper_12 rfl ?_
  refine z_ldc2 X dX6_upper_13 q_X6_52 (1073741823) (by decide) ?_
  refine z_land X dX6_upper_16 30 (by omega) (by decide) 1073741824 (by decide) ?_
  refine z_lstore X dX6_upper_17 (fun y => [_, _, _, _, _, _, _, _, some (vl y), _, _, _]) (by decide) (fun _ => rfl) (fun c hc => ?_)
  refine z_lload_n X dX6_upper_19 rfl ?_
  refine z_ldc2 X dX6_upper_20 q_X6_52 (1073741823) (by decide) ?_
  refine z_land X dX6_upper_23 30 (by omega) (by decide) 1073741824 (by decide) ?_
  refine z_lstore X dX6_upper_24 (fun y => [_, _, _, _, _, _, _, _, _, _, some (vl y), _]) (by decide) (fun _ => rfl) (fun d hd => ?_)
  refine z_lload X dX6_upper_26 rfl ?_
  refine z_lload X dX6_upper_28 rfl ?_
  refine z_lmul X dX6_upper_30 ?_
  refine z_bipush X dX6_upper_31 (by decide) ?_
  refine z_lshl X dX6_upper_33 30 1073741824 rfl (by decide) (by decide) ?_
  refine z_lload X dX6_upper_34 rfl ?_
  refine z_lload X dX6_upper_36 rfl ?_
  refine z_lmul X dX6_upper_38 ?_
  refine z_ladd X dX6_upper_39 ?_
  refine z_lload X dX6_upper_40 rfl ?_
  refine z_lload X dX6_upper_42 rfl ?_
  refine z_lmul X dX6_upper_44 ?_
  refine z_ladd X dX6_upper_45 ?_
  refine z_lload X dX6_upper_46 rfl ?_
  refine z_lload X dX6_upper_48 rfl ?_
  refine z_lmul X dX6_upper_50 ?_
  refine z_bipush X dX6_upper_51 (by decide) ?_
  have h1 := zmul_le (a := c) (A := 1073741823) (b := d) (B := 1073741823) (by omega) (by omega) (by omega) (by omega)
  refine z_lshr X dX6_upper_53 30 1073741824 rfl (by decide) (by decide) (by omega) ?_
  refine z_ladd X dX6_upper_54 ?_
  refine z_lreturn (st := []) X rfl hQ dX6_upper_55 ⟨rfl, _, rfl, ?_⟩
  refine ⟨rfl, ?_⟩
  rw [← zdivmul hx.1 hy.1, ha, hb, hc, hd]
theorem c_X6_lower (G : zG) {A : zA} {m : zM} {x y : Int} : zMet G k_X6_lower [vl x, vl y] A m (zpl A (fun r m' => m = m' ∧ r = x * y % 1073741824)) := by
  refine zMet.of RX6 rfl (by decide +kernel) (Nat.le_of_ble_eq_true rfl) [some (vl x), none, some (vl y), none] rfl (fun E hG X hQ hNm => ?_)
  subst hG
  refine z_lload_n X dX6_lower_0 rfl ?_
  refine z_lload_n X dX6_lower_1 rfl ?_
  refine z_lmul X dX6_lower_2 ?_
  refine z_ldc2 X dX6_lower_3 q_X6_52 (1073741823) (by decide) ?_
  refine z_land X dX6_lower_6 30 (by omega) (by decide) 1073741824 (by decide) ?_
  refine z_lreturn (st := []) X rfl hQ dX6_lower_7 ⟨rfl, _, rfl, ?_⟩
  exact ⟨rfl, rfl⟩
theorem c_X6_outgrowsBound (G : zG) {A : zA} {m : zM} {s k : Nat} {c : Nat → Nat → Int} {u v : Int} (hA : zsumA A s) (hm : zsumM m s c u v) (hc : zcoef c) (hb : zbnd u v) (hk1 : 1 ≤ k) (hk : k < 100) : zMet G k_X6_outgrowsBound [vr s, vi (k : Int)] A m (zpi A (fun r m' => m = m' ∧ ((r = 1 ∧ zsteep c u v k) ∨ (r = 0 ∧ ¬ zsteep c u v k)))) := by
  obtain ⟨hA1, ⟨hA2, hA3, hA4⟩, hA5, hA6, hA7⟩ := id hA
  obtain ⟨hb1, hb2, hb3⟩ := hb
  have eu := hm.2.1
  have ev := hm.2.2
  have p0 := zpval_bd hc (w := 0) (k := k) (by omega) hk
  have p1 := zpval_bd hc (w := 1) (k := k) (by omega) hk
  have p2 := zpval_bd hc (w := 2) (k := k) (by omega) hk
  have p3 := zpval_bd hc (w := 3) (k := k) (by omega) hk
  have p4 := zpval_bd hc (w := 2) (k := k - 1) (by omega) (by omega)
  have p5 := zpval_bd hc (w := 3) (k := k - 1) (by omega) (by omega)
  have x1 := zmul_bd (A := 9891099) (B := 9891099) p0 p2 (by omega) (by omega)
  have x2 := zmul_bd (A := 9891099) (B := 1000000) (b := v) p5 (by omega) (by omega) (by omega)
  have x3 := zmul_bd (A := 9891099) (B := 9891099) p1 p3 (by omega) (by omega)
  have x4 := zmul_bd (A := 9891099) (B := 1000000) (b := u) p4 (by omega) (by omega) (by omega)
  refine zMet.of RX6 rfl (by decide +kernel) (Nat.le_of_ble_eq_true rfl) [some (vr s), some (vi (k : Int)), none, none, none, none, none, none, none, none, none, none] rfl (fun E hG X hQ hNm => ?_)
  subst hG
  refine z_aload_n X dX6_outgrowsBound_0 rfl ?_
  refine z_iconst X dX6_outgrowsBound_1 ?_
  refine z_iload_n X dX6_outgrowsBound_2 rfl ?_
  refine z_callVi X (As := [_, _]) dX6_outgrowsBound_3 m_X6_value i_X6_value l_X6_32 (c_X6_value (zg E) hA hm hc 0 k rfl rfl (by omega) hk) (by assumption) rfl rfl rfl (Nat.le_of_ble_eq_true rfl) ⟨Nat.le_of_ble_eq_true rfl, Nat.le_of_ble_eq_true rfl⟩ ⟨Nat.le_of_ble_eq_true rfl, Nat.le_of_ble_eq_true rfl⟩ ⟨rfl, rfl⟩ (fun r1 m1 hm1 => ?_)
  obtain ⟨rfl, rfl⟩ := hm1
  refine z_i2l X dX6_outgrowsBound_6 (by omega) ?_
  refine z_aload_n X dX6_outgrowsBound_7 rfl ?_
  refine z_iconst X dX6_outgrowsBound_8 ?_
  refine z_iload_n X dX6_outgrowsBound_9 rfl ?_
  refine z_callVi X (As := [_, _]) dX6_outgrowsBound_10 m_X6_value i_X6_value l_X6_32 (c_X6_value (zg E) hA hm hc 2 k rfl rfl (by omega) hk) (by assumption) rfl rfl rfl (Nat.le_of_ble_eq_true rfl) ⟨Nat.le_of_ble_eq_true rfl, Nat.le_of_ble_eq_true rfl⟩ ⟨Nat.le_of_ble_eq_true rfl, Nat.le_of_ble_eq_true rfl⟩ ⟨rfl, rfl⟩ (fun r1 m1 hm1 => ?_)
  obtain ⟨rfl, rfl⟩ := hm1
  refine z_i2l X dX6_outgrowsBound_13 (by omega) ?_
  refine z_lmul X dX6_outgrowsBound_14 ?_
  refine z_absl X dX6_outgrowsBound_15 l_X6_39 ms_absl mi_math mc_absl (by decide) (Nat.le_of_ble_eq_true rfl) ⟨Nat.le_of_ble_eq_true rfl, Nat.le_of_ble_eq_true rfl⟩ (by omega) ?_
  refine z_lstore_n X dX6_outgrowsBound_18 (fun y => [_, _, some (vl y), _, _, _, _, _, _, _, _, _]) (by decide) (fun _ => rfl) (fun x hx => ?_)
  refine z_aload_n X dX6_outgrowsBound_19 rfl ?_
  refine z_iconst X dX6_outgrowsBound_20 ?_
  refine z_iload_n X dX6_outgrowsBound_21 rfl ?_
  refine z_iconst X dX6_outgrowsBound_22 ?_
  refine z_isub X dX6_outgrowsBound_23 ?_
  refine z_callVi X (As := [_, _]) dX6_outgrowsBound_24 m_X6_value i_X6_value l_X6_32 (c_X6_value (zg E) hA hm hc 3 (k - 1) rfl (by omega) (by omega) (by omega)) (by assumption) rfl rfl rfl (Nat.le_of_ble_eq_true rfl) ⟨Nat.le_of_ble_eq_true rfl, Nat.le_of_ble_eq_true rfl⟩ ⟨Nat.le_of_ble_eq_true rfl, Nat.le_of_ble_eq_true rfl⟩ ⟨rfl, rfl⟩ (fun r1 m1 hm1 => ?_)
  obtain ⟨rfl, rfl⟩ := hm1
  refine z_i2l X dX6_outgrowsBound_27 (by omega) ?_
  refine z_aload_n X dX6_outgrowsBound_28 rfl ?_
  skip
  refine z_getI X dX6_outgrowsBound_29 f_X6_25 rfl (by assumption) ?_
  rw [ev]
  refine z_i2l X dX6_outgrowsBound_32 (by omega) ?_
  refine z_lmul X dX6_outgrowsBound_33 ?_
  refine z_absl X dX6_outgrowsBound_34 l_X6_39 ms_absl mi_math mc_absl (by decide) (Nat.le_of_ble_eq_true rfl) ⟨Nat.le_of_ble_eq_true rfl, Nat.le_of_ble_eq_true rfl⟩ (by omega) ?_
  refine z_lstore X dX6_outgrowsBound_37 (fun y => [_, _, _, _, some (vl y), _, _, _, _, _, _, _]) (by decide) (fun _ => rfl) (fun y hy => ?_)
  refine z_aload_n X dX6_outgrowsBound_39 rfl ?_
  refine z_iconst X dX6_outgrowsBound_40 ?_
  refine z_iload_n X dX6_outgrowsBound_41 rfl ?_
  refine z_callVi X (As := [_, _]) dX6_outgrowsBound_42 m_X6_value i_X6_value l_X6_32 (c_X6_value (zg E) hA hm hc 1 k rfl rfl (by omega) hk) (by assumption) rfl rfl rfl (Nat.le_of_ble_eq_true rfl) ⟨Nat.le_of_ble_eq_true rfl, Nat.le_of_ble_eq_true rfl⟩ ⟨Nat.le_of_ble_eq_true rfl, Nat.le_of_ble_eq_true rfl⟩ ⟨rfl, rfl⟩ (fun r1 m1 hm1 => ?_)
  obtain ⟨rfl, rfl⟩ := hm1
  refine z_i2l X dX6_outgrowsBound_45 (by omega) ?_
  refine z_aload_n X dX6_outgrowsBound_46 rfl ?_
  refine z_iconst X dX6_outgrowsBound_47 ?_
  refine z_iload_n X dX6_outgrowsBound_48 rfl ?_
  refine z_callVi X (As := [_, _]) dX6_outgrowsBound_49 m_X6_value i_X6_value l_X6_32 (c_X6_value (zg E) hA hm hc 3 k rfl rfl (by omega) hk) (by assumption) rfl rfl rfl (Nat.le_of_ble_eq_true rfl) ⟨Nat.le_of_ble_eq_true rfl, Nat.le_of_ble_eq_true rfl⟩ ⟨Nat.le_of_ble_eq_true rfl, Nat.le_of_ble_eq_true rfl⟩ ⟨rfl, rfl⟩ (fun r1 m1 hm1 => ?_)
  obtain ⟨rfl, rfl⟩ := hm1
  refine z_i2l X dX6_outgrowsBound_52 (by omega) ?_
  refine z_lmul X dX6_outgrowsBound_53 ?_
  refine z_absl X dX6_outgrowsBound_54 l_X6_39 ms_absl mi_math mc_absl (by decide) (Nat.le_of_ble_eq_true rfl) ⟨Nat.le_of_ble_eq_true rfl, Nat.le_of_ble_eq_true rfl⟩ (by omega) ?_
  refine z_lstore X dX6_outgrowsBound_57 (fun y => [_, _, _, _, _, _, some (vl y), _, _, _, _, _]) (by decide) (fun _ => rfl) (fun z hz => ?_)
  refine z_aload_n X dX6_outgrowsBound_59 rfl ?_
  refine z_iconst X dX6_outgrowsBound_60 ?_
  refine z_iload_n X dX6_outgrowsBound_61 rfl ?_
  refine z_iconst X dX6_outgrowsBound_62 ?_
  refine z_isub X dX6_outgrowsBound_63 ?_
  refine z_callVi X (As := [_, _]) dX6_outgrowsBound_64 m_X6_value i_X6_value l_X6_32 (c_X6_value (zg E) hA hm hc 2 (k - 1) rfl (by omega) (by omega) (by omega)) (by assumption) rfl rfl rfl (Nat.le_of_ble_eq_true rfl) ⟨Nat.le_of_ble_eq_true rfl, Nat.le_of_ble_eq_true rfl⟩ ⟨Nat.le_of_ble_eq_true rfl, Nat.le_of_ble_eq_true rfl⟩ ⟨rfl, rfl⟩ (fun r1 m1 hm1 => ?_)
  obtain ⟨rfl, rfl⟩ := hm1
  refine z_i2l X dX6_outgrowsBound_67 (by omega) ?_
  refine z_aload_n X dX6_outgrowsBound_68 rfl ?_
  refine z_getI X dX6_outgrowsBound_69 f_X6_21 rfl (by assumption) ?_
  rw [eu]
  refine z_i2l X dX6_outgrowsBound_72 (by omega) ?_
  refine z_lmul X dX6_outgrowsBound_73 ?_
  refine z_absl X dX6_outgrowsBound_74 l_X6_39 ms_absl mi_math mc_absl (by decide) (Nat.le_of_ble_eq_true rfl) ⟨Nat.le_of_ble_eq_true rfl, Nat.le_of_ble_eq_true rfl⟩ (by omega) ?_
  refine z_lstore X dX6_outgrowsBound_77 (fun y => [_, _, _, _, _, _, _, _, some (vl y), _, _, _]) (by decide) (fun _ => rfl) (fun w hw => ?_)
  refine z_lload_n X dX6_outgrowsBound_79 rfl ?_
  refine z_lload X dX6_outgrowsBound_80 rfl ?_
  refine z_callSl X (As := [_, _]) dX6_outgrowsBound_82 m_X6_upper s_X6_upper l_X6_45 (c_X6_upper (zg E) (by omega) (by omega)) rfl rfl (Nat.le_of_ble_eq_true rfl) ⟨Nat.le_of_ble_eq_true rfl, Nat.le_of_ble_eq_true rfl⟩ ⟨Nat.le_of_ble_eq_true rfl, Nat.le_of_ble_eq_true rfl⟩ ⟨rfl, rfl⟩ (fun r1 m1 hm1 => ?_)
  obtain ⟨rfl, rfl⟩ := hm1
  refine z_lload X dX6_outgrowsBound_85 rfl ?_
  refine z_lload X dX6_outgrowsBound_87 rfl ?_
  refine z_callSl X (As := [_, _]) dX6_outgrowsBound_89 m_X6_upper s_X6_upper l_X6_45 (c_X6_upper (zg E) (by omega) (by omega)) rfl rfl (Nat.le_of_ble_eq_true rfl) ⟨Nat.le_of_ble_eq_true rfl, Nat.le_of_ble_eq_true rfl⟩ ⟨Nat.le_of_ble_eq_true rfl, Nat.le_of_ble_eq_true rfl⟩ ⟨rfl, rfl⟩ (fun r1 m1 hm1 => ?_)
  obtain ⟨rfl, rfl⟩ := hm1
  refine z_lsub X dX6_outgrowsBound_92 ?_
  refine z_lstore X dX6_outgrowsBound_93 (fun y => [_, _, _, _, _, _, _, _, _, _, some (vl y), _]) (by decide) (fun _ => rfl) (fun o ho => ?_)
  have g1 := zmul_le (a := x) (A := 100000000000000) (b := y) (B := 10000000000000) (by omega) (by omega) (by omega) (by omega)
  have g2 := zmul_le (a := z) (A := 100000000000000) (b := w) (B := 10000000000000) (by omega) (by omega) (by omega) (by omega)
  have g3 : zsteep c u v k ↔ z * w < x * y := by rw [hx, hy, hz, hw]
  generalize hX : x * y = X1 at *
  generalize hZ : z * w = Z1 at *
  refine z_lload X dX6_outgrowsBound_95 rfl ?_
  refine z_lconst X dX6_outgrowsBound_97 0 rfl ?_
  refine z_lcmp_gt X dX6_outgrowsBound_98 dX6_outgrowsBound_99 126 (by decide) (by omega) (by omega) (fun h98 => ?_) (fun h98 => ?_)
  · refine z_iconst X dX6_outgrowsBound_126 ?_
    refine z_goto X dX6_outgrowsBound_127 131 (by decide) ?_
    refine z_zreturn (st := []) X rfl hQ dX6_outgrowsBound_131 (by first | exact Or.inl rfl | exact Or.inr rfl | omega) ⟨rfl, _, rfl, ?_⟩
    exact ⟨rfl, by rw [g3]; omega⟩
  · refine z_lload X dX6_outgrowsBound_102 rfl ?_
    refine z_lconst X dX6_outgrowsBound_104 0 rfl ?_
    refine z_lcmp_ne X dX6_outgrowsBound_105 dX6_outgrowsBound_106 130 (by decide) (by omega) (by omega) (fun h105 => ?_) (fun h105 => ?_)
    · refine z_iconst X dX6_outgrowsBound_130 ?_
      refine z_zreturn (st := []) X rfl hQ dX6_outgrowsBound_131 (by first | exact Or.inl rfl | exact Or.inr rfl | omega) ⟨rfl, _, rfl, ?_⟩
      exact ⟨rfl, by rw [g3]; omega⟩
    · refine z_lload_n X dX6_outgrowsBound_109 rfl ?_
      refine z_lload X dX6_outgrowsBound_110 rfl ?_
      refine z_callSl X (As := [_, _]) dX6_outgrowsBound_112 m_X6_lower s_X6_lower l_X6_49 (c_X6_lower (zg E)) rfl rfl (Nat.le_of_ble_eq_true rfl) ⟨Nat.le_of_ble_eq_true rfl, Nat.le_of_ble_eq_true rfl⟩ ⟨Nat.le_of_ble_eq_true rfl, Nat.le_of_ble_eq_true rfl⟩ ⟨rfl, rfl⟩ (fun r1 m1 hm1 => ?_)
      obtain ⟨rfl, rfl⟩ := hm1
      refine z_lload X dX6_outgrowsBound_115 rfl ?_
      refine z_lload X dX6_outgrowsBound_117 rfl ?_
      refine z_callSl X (As := [_, _]) dX6_outgrowsBound_119 m_X6_lower s_X6_lower l_X6_49 (c_X6_lower (zg E)) rfl rfl (Nat.le_of_ble_eq_true rfl) ⟨Nat.le_of_ble_eq_true rfl, Nat.le_of_ble_eq_true rfl⟩ ⟨Nat.le_of_ble_eq_true rfl, Nat.le_of_ble_eq_true rfl⟩ ⟨rfl, rfl⟩ (fun r1 m1 hm1 => ?_)
      obtain ⟨rfl, rfl⟩ := hm1
      rw [hX, hZ]
      refine z_lcmp_le X dX6_outgrowsBound_122 dX6_outgrowsBound_123 130 (by decide) (by omega) (by omega) (fun h122 => ?_) (fun h122 => ?_)
      · refine z_iconst X dX6_outgrowsBound_130 ?_
        refine z_zreturn (st := []) X rfl hQ dX6_outgrowsBound_131 (by first | exact Or.inl rfl | exact Or.inr rfl | omega) ⟨rfl, _, rfl, ?_⟩
        exact ⟨rfl, by rw [g3]; omega⟩
      · refine z_iconst X dX6_outgrowsBound_126 ?_
        refine z_goto X dX6_outgrowsBound_127 131 (by decide) ?_
        refine z_zreturn (st := []) X rfl hQ dX6_outgrowsBound_131 (by first | exact Or.inl rfl | exact Or.inr rfl | omega) ⟨rfl, _, rfl, ?_⟩
        exact ⟨rfl, by rw [g3]; omega⟩
theorem zl_firstFall {E : zCx} (X : zOK E cX6_firstFall RX6 5 (some .int) k_X6_firstFall.2.2.2.2) {A : zA} {m : zM} {s : Nat} {c : Nat → Nat → Int} {u v : Int} (hA : zsumA A s) (hm : zsumM m s c u v) (hc : zcoef c) (hb : zbnd u v) {st e : Nat} (he : e ≤ 100) (hst : st ≤ 100) {R : Int} {P : Int → zM → Prop} (hQ : zRet E (zpi A P) 0 0) (hP : P R m) {l2 : Option Value} : ∀ (n k : Nat), k + n = e → zff c u v st k n = R → zW E (0, 0) A m 3 [some (vr s), some (vi (st : Int)), l2, some (vi (e : Int)), some (vi (k : Int))] [] := by
  obtain ⟨hA1, ⟨hA2, hA3, hA4⟩, hA5, hA6, hA7⟩ := id hA
  intro n
  induction n with
  | zero =>
    intro k hk hR
    refine z_iload X dX6_firstFall_3 rfl ?_
    refine z_iload_n X dX6_firstFall_5 rfl ?_
    refine z_icmp_ge X dX6_firstFall_6 56 (by decide) (by omega) (by omega) (fun h6 => ?_) (fun h6 => ?_)
    · refine z_bipush X dX6_firstFall_56 (by decide) ?_
      refine z_ireturn (st := []) X rfl hQ dX6_firstFall_58 ⟨rfl, _, rfl, ?_⟩
      have : R = -6 := hR.symm
      rw [this] at hP
      exact hP
    · exact absurd h6 (by omega)
  | succ n ih =>
    intro k hk hR
    unfold zff at hR
    have p1 := zpval_bd hc (w := 1) (k := k) (by omega) (by omega)
    have p3 := zpval_bd hc (w := 3) (k := k) (by omega) (by omega)
    refine z_iload X dX6_firstFall_3 rfl ?_
    refine z_iload_n X dX6_firstFall_5 rfl ?_
    refine z_icmp_ge X dX6_firstFall_6 56 (by decide) (by omega) (by omega) (fun h6 => ?_) (fun h6 => ?_)
    · exact absurd h6 (by omega)
    · refine z_aload_n X dX6_firstFall_9 rfl ?_
      refine z_iconst X dX6_firstFall_10 ?_
      refine z_iload X dX6_firstFall_11 rfl ?_
      refine z_callVi X (As := [_, _]) dX6_firstFall_13 m_X6_value i_X6_value l_X6_32 (c_X6_value (zg E) hA hm hc 1 k rfl rfl (by omega) (by omega)) (by assumption) rfl rfl rfl (Nat.le_of_ble_eq_true rfl) ⟨Nat.le_of_ble_eq_true rfl, Nat.le_of_ble_eq_true rfl⟩ ⟨Nat.le_of_ble_eq_true rfl, Nat.le_of_ble_eq_true rfl⟩ ⟨rfl, rfl⟩ (fun r1 m1 hm1 => ?_)
      obtain ⟨rfl, rfl⟩ := hm1
      refine z_if_eq X dX6_firstFall_16 29 (by decide) (by omega) (fun h16 => ?_) (fun h16 => ?_)
      · refine z_iload X dX6_firstFall_29 rfl ?_
        refine z_ireturn (st := []) X rfl hQ dX6_firstFall_31 ⟨rfl, _, rfl, ?_⟩
        rw [if_pos (Or.inl h16)] at hR
        rw [hR]
        exact hP
      · refine z_aload_n X dX6_firstFall_19 rfl ?_
        refine z_iconst X dX6_firstFall_20 ?_
        refine z_iload X dX6_firstFall_21 rfl ?_
        refine z_callVi X (As := [_, _]) dX6_firstFall_23 m_X6_value i_X6_value l_X6_32 (c_X6_value (zg E) hA hm hc 3 k rfl rfl (by omega) (by omega)) (by assumption) rfl rfl rfl (Nat.le_of_ble_eq_true rfl) ⟨Nat.le_of_ble_eq_true rfl, Nat.le_of_ble_eq_true rfl⟩ ⟨Nat.le_of_ble_eq_true rfl, Nat.le_of_ble_eq_true rfl⟩ ⟨rfl, rfl⟩ (fun r1 m1 hm1 => ?_)
        obtain ⟨rfl, rfl⟩ := hm1
        refine z_if_ne X dX6_firstFall_26 32 (by decide) (by omega) (fun h26 => ?_) (fun h26 => ?_)
        · refine z_iload X dX6_firstFall_32 rfl ?_
          refine z_iload_n X dX6_firstFall_34 rfl ?_
          refine z_icmp_le X dX6_firstFall_35 50 (by decide) (by omega) (by omega) (fun h35 => ?_) (fun h35 => ?_)
          · refine z_iinc X dX6_firstFall_50 rfl (fun y => [_, _, _, _, some (vi y)]) (fun _ => rfl) (fun x4_50 hx4_50 => ?_)
            obtain rfl : x4_50 = ((k + 1 : Nat) : Int) := by omega
            refine z_goto X dX6_firstFall_53 3 (by decide) ?_
            refine ih (k + 1) (by omega) ?_
            rw [if_neg ?_] at hR
            · exact hR
            · rintro (h | h | ⟨h, h'⟩)
              · exact h16 h
              · omega
              · omega
          · refine z_aload_n X dX6_firstFall_38 rfl ?_
            refine z_iload X dX6_firstFall_39 rfl ?_
            refine z_callVi X (As := [_]) dX6_firstFall_41 m_X6_outgrowsBound i_X6_outgrowsBound l_X6_36 (c_X6_outgrowsBound (zg E) hA hm hc hb (by omega) (by omega)) (by assumption) rfl rfl rfl (Nat.le_of_ble_eq_true rfl) ⟨Nat.le_of_ble_eq_true rfl, Nat.le_of_ble_eq_true rfl⟩ ⟨Nat.le_of_ble_eq_true rfl, Nat.le_of_ble_eq_true rfl⟩ ⟨rfl, rfl⟩ (fun r1 m1 hm1 => ?_)
            obtain ⟨rfl, hm1⟩ := hm1
            refine z_if_eq X dX6_firstFall_44 50 (by decide) (by omega) (fun h44 => ?_) (fun h44 => ?_)
            · refine z_iinc X dX6_firstFall_50 rfl (fun y => [_, _, _, _, some (vi y)]) (fun _ => rfl) (fun x4_50 hx4_50 => ?_)
              obtain rfl : x4_50 = ((k + 1 : Nat) : Int) := by omega
              refine z_goto X dX6_firstFall_53 3 (by decide) ?_
              refine ih (k + 1) (by omega) ?_
              rw [if_neg ?_] at hR
              · exact hR
              · rintro (h | h | ⟨h, h'⟩)
                · exact h16 h
                · omega
                · rcases hm1 with g | g
                  · omega
                  · exact g.2 h'
            · refine z_iload X dX6_firstFall_47 rfl ?_
              refine z_ireturn (st := []) X rfl hQ dX6_firstFall_49 ⟨rfl, _, rfl, ?_⟩
              rw [if_pos (Or.inr (Or.inr ⟨by omega, (by rcases hm1 with h | h; exact h.2; exact absurd h.1 h44)⟩))] at hR
              rw [hR]
              exact hP
        · refine z_iload X dX6_firstFall_29 rfl ?_
          refine z_ireturn (st := []) X rfl hQ dX6_firstFall_31 ⟨rfl, _, rfl, ?_⟩
          rw [if_pos (Or.inr (Or.inl (by omega)))] at hR
          rw [hR]
          exact hP
theorem c_X6_firstFall (G : zG) {A : zA} {m : zM} {s : Nat} {c : Nat → Nat → Int} {u v : Int} (hA : zsumA A s) (hm : zsumM m s c u v) (hc : zcoef c) (hb : zbnd u v) {wi fi ei : Int} (st f e : Nat) (h1 : wi = (st : Int)) (h2 : fi = (f : Int)) (h3 : ei = (e : Int)) (hfe : f ≤ e) (he : e ≤ 100) (hst : st ≤ 100) : zMet G k_X6_firstFall [vr s, vi wi, vi fi, vi ei] A m (zpi A (fun r m' => m = m' ∧ r = zff c u v st f (e - f))) := by
  obtain ⟨hA1, ⟨hA2, hA3, hA4⟩, hA5, hA6, hA7⟩ := id hA
  subst h1
  subst h2
  subst h3
  refine zMet.of RX6 rfl (by decide +kernel) (Nat.le_of_ble_eq_true rfl) [some (vr s), some (vi (st : Int)), some (vi (f : Int)), some (vi (e : Int)), none] rfl (fun E hG X hQ hNm => ?_)
  subst hG
  refine z_iload_n X dX6_firstFall_0 rfl ?_
  refine z_istore X dX6_firstFall_1 (fun y => [_, _, _, _, some (vi y)]) (by decide) (fun _ => rfl) (fun x4_1 hx4_1 => ?_)
  subst hx4_1
  exact zl_firstFall X hA hm hc hb he hst hQ ⟨rfl, rfl⟩ (e - f) f (by omega) rfl
theorem c_X6_setRule (G : zG) {A : zA} {m : zM} {s : Nat} (hA : zsumA A s) {wi a b d : Int} (w : Nat) (hw : wi = (w : Int)) (hw4 : w < 4) : zMet G k_X6_setRule [vr s, vi wi, vi a, vi b, vi d] A m (zpv A (fun m' => m' = zms (zms (zms m (s + 1) w a) (s + 2) w b) (s + 3) w d)) := by
  obtain ⟨hA1, ⟨hA2, hA3, hA4⟩, hA5, hA6, hA7⟩ := id hA
  subst hw
  refine zMet.of RX6 rfl (by decide +kernel) (Nat.le_of_ble_eq_true rfl) [some (vr s), some (vi (w : Int)), some (vi a), some (vi b), some (vi d)] rfl (fun E hG X hQ hNm => ?_)
  subst hG
  refine z_iload_n X dX6_setRule_0 rfl ?_
  refine z_callSi X (As := [_]) dX6_setRule_1 m_X7_isRule s_X7_isRule l_X6_28 (c_X7_isRule (zg E) (by omega)) rfl rfl (Nat.le_of_ble_eq_true rfl) ⟨Nat.le_of_ble_eq_true rfl, Nat.le_of_ble_eq_true rfl⟩ ⟨Nat.le_of_ble_eq_true rfl, Nat.le_of_ble_eq_true rfl⟩ ⟨rfl, rfl⟩ (fun r m1 hm1 => ?_)
  obtain ⟨rfl, hr⟩ := hm1
  refine z_if_eq X dX6_setRule_4 29 (by decide) (by omega) (fun h4 => ?_) (fun h4 => ?_)
  · refine z_return (st := []) X rfl hQ dX6_setRule_29 ⟨rfl, rfl, ?_⟩
    exact absurd h4 (by omega)
  · refine z_aload_n X dX6_setRule_7 rfl ?_
    refine z_getR X dX6_setRule_8 f_X6_9 rfl (by assumption) (by assumption) ?_
    refine z_iload_n X dX6_setRule_11 rfl ?_
    refine z_iload_n X dX6_setRule_12 rfl ?_
    refine z_iast X (_) dX6_setRule_13 rfl (by assumption) (by omega) (by omega) ?_
    refine z_aload_n X dX6_setRule_14 rfl ?_
    refine z_getR X dX6_setRule_15 f_X6_15 rfl (by assumption) (by assumption) ?_
    refine z_iload_n X dX6_setRule_18 rfl ?_
    refine z_iload_n X dX6_setRule_19 rfl ?_
    refine z_iast X (_) dX6_setRule_20 rfl (by assumption) (by omega) (by omega) ?_
    refine z_aload_n X dX6_setRule_21 rfl ?_
    refine z_getR X dX6_setRule_22 f_X6_18 rfl (by assumption) (by assumption) ?_
    refine z_iload_n X dX6_setRule_25 rfl ?_
    refine z_iload X dX6_setRule_26 rfl ?_
    refine z_iast X (_) dX6_setRule_28 rfl (by assumption) (by omega) (by omega) ?_
    refine z_return (st := []) X rfl hQ dX6_setRule_29 ⟨rfl, rfl, ?_⟩
    rfl

/-! Constant.addPart; Figures -/
def zcoA (A : zA) (c : Nat) : Prop := A.1 c = some (.inl 1) ∧ (A.2.1 c 0 = some (c + 1) ∧ A.2.1 c 1 = some (c + 2) ∧ A.2.1 c 2 = some (c + 3)) ∧ A.1 (c + 1) = some (.inr (0, 4)) ∧ A.1 (c + 2) = some (.inr (0, 4)) ∧ A.1 (c + 3) = some (.inr (0, 4))
theorem c_X1_addPart (G : zG) {A : zA} {m : zM} {c : Nat} {s x y : Int} {p : Nat} (hA : zcoA A c) (hp : m c 3 = (p : Int)) (hp4 : p ≤ 4) : zMet G k_X1_addPart [vr c, vi s, vi x, vi y] A m (zpi A (fun r m' => (p = 4 ∧ r = 0 ∧ m' = m) ∨ (p < 4 ∧ r = 1 ∧ m' = zms (zms (zms (zms m (c + 1) p s) (c + 2) p x) (c + 3) p y) c 3 ((p : Int) + 1)))) := by
  obtain ⟨hA1, ⟨hA2, hA3, hA4⟩, hA5, hA6, hA7⟩ := hA
  refine zMet.of RX1 rfl (by decide +kernel) (Nat.le_of_ble_eq_true rfl) [some (vr c), some (vi s), some (vi x), some (vi y)] rfl (fun E hG X hQ hNm => ?_)
  subst hG
  refine z_aload_n X dX1_addPart_0 rfl ?_
  refine z_getI X dX1_addPart_1 f_X1_21 rfl (by assumption) ?_
  refine z_if_lt X dX1_addPart_4 15 (by decide) (by omega) (fun h4 => ?_) (fun h4 => ?_)
  · refine z_iconst X dX1_addPart_15 ?_
    refine z_zreturn (st := []) X rfl hQ dX1_addPart_16 (by first | exact Or.inl rfl | exact Or.inr rfl | omega) ⟨rfl, _, rfl, ?_⟩
    exact absurd h4 (by omega)
  · refine z_aload_n X dX1_addPart_7 rfl ?_
    refine z_getI X dX1_addPart_8 f_X1_21 rfl (by assumption) ?_
    refine z_iconst X dX1_addPart_11 ?_
    refine z_icmp_lt X dX1_addPart_12 17 (by decide) (by omega) (by omega) (fun h12 => ?_) (fun h12 => ?_)
    · refine z_aload_n X dX1_addPart_17 rfl ?_
      refine z_getR X dX1_addPart_18 f_X1_9 rfl (by assumption) (by assumption) ?_
      refine z_aload_n X dX1_addPart_21 rfl ?_
      refine z_getI X dX1_addPart_22 f_X1_21 rfl (by assumption) ?_
      refine z_iload_n X dX1_addPart_25 rfl ?_
      have e1 : m c 3 = (p : Int) := hp
      refine z_iast X (p) dX1_addPart_26 (by omega) (by assumption) (by omega) (by omega) ?_
      refine z_aload_n X dX1_addPart_27 rfl ?_
      refine z_getR X dX1_addPart_28 f_X1_15 rfl (by assumption) (by assumption) ?_
      refine z_aload_n X dX1_addPart_31 rfl ?_
      refine z_getI X dX1_addPart_32 f_X1_21 rfl (by assumption) ?_
      refine z_iload_n X dX1_addPart_35 rfl ?_
      have e2 : zms m (c + 1) p s c 3 = (p : Int) := (zms_nq _ _ _ _ _ (by omega)).trans hp
      refine z_iast X (p) dX1_addPart_36 (by omega) (by assumption) (by omega) (by omega) ?_
      refine z_aload_n X dX1_addPart_37 rfl ?_
      refine z_getR X dX1_addPart_38 f_X1_18 rfl (by assumption) (by assumption) ?_
      refine z_aload_n X dX1_addPart_41 rfl ?_
      refine z_getI X dX1_addPart_42 f_X1_21 rfl (by assumption) ?_
      refine z_iload_n X dX1_addPart_45 rfl ?_
      have e3 : zms (zms m (c + 1) p s) (c + 2) p x c 3 = (p : Int) := (zms_nq _ _ _ _ _ (by omega)).trans e2
      refine z_iast X (p) dX1_addPart_46 (by omega) (by assumption) (by omega) (by omega) ?_
      refine z_aload_n X dX1_addPart_47 rfl ?_
      refine z_dup X dX1_addPart_48 rfl ?_
      refine z_getI X dX1_addPart_49 f_X1_21 rfl (by assumption) ?_
      refine z_iconst X dX1_addPart_52 ?_
      refine z_iadd X dX1_addPart_53 ?_
      refine z_putI X dX1_addPart_54 f_X1_21 rfl rfl (by assumption) ?_
      refine z_iconst X dX1_addPart_57 ?_
      refine z_zreturn (st := []) X rfl hQ dX1_addPart_58 (by first | exact Or.inl rfl | exact Or.inr rfl | omega) ⟨rfl, _, rfl, ?_⟩
      refine Or.inr ⟨by omega, rfl, ?_⟩
      congr 1
      have e4 : zms (zms (zms m (c + 1) p s) (c + 2) p x) (c + 3) p y c 3 = (p : Int) := (zms_nq _ _ _ _ _ (by omega)).trans e3
      rw [e4]
    · refine z_iconst X dX1_addPart_15 ?_
      refine z_zreturn (st := []) X rfl hQ dX1_addPart_16 (by first | exact Or.inl rfl | exact Or.inr rfl | omega) ⟨rfl, _, rfl, ?_⟩
      exact Or.inl ⟨by omega, rfl, rfl⟩
def zfigA (A : zA) (f : Nat) : Prop := A.1 f = some (.inl 3) ∧ A.2.1 f 0 = some (f + 1) ∧ A.1 (f + 1) = some (.inr (0, 100))
/-- n figures are sure, they are dg; S tells it, -6: not even the whole -/
def zsur (S : Int) (n : Nat) : Prop := (S = -6 ∧ n = 0) ∨ (S = (n : Int) ∧ n ≤ 100)
def zfigM (m : zM) (f : Nat) (S : Int) (n : Nat) (dg : Nat → Int) : Prop := m f 6 = S ∧ zsur S n ∧ ∀ j, j < n → m (f + 1) j = dg j ∧ 0 ≤ dg j ∧ dg j < 36
def zbp (n : Nat) (dg : Nat → Int) (i : Int) : Int := if 1 ≤ i ∧ i ≤ n then dg (i - 1).toNat else -6
theorem zbp_at {n : Nat} {dg : Nat → Int} {i : Int} {j : Nat} (h : i = (j : Int) + 1) (hj : j < n) : zbp n dg i = dg j := by
  unfold zbp
  rw [if_pos (by omega)]
  congr 1
  omega
theorem zbp_bd {n : Nat} {dg : Nat → Int} (h : ∀ j, j < n → 0 ≤ dg j ∧ dg j < 36) (i : Int) : -6 ≤ zbp n dg i ∧ zbp n dg i < 36 := by
  unfold zbp
  split
  · have := h (i - 1).toNat (by omega)
    omega
  · omega
theorem c_X3_behindPoint (G : zG) {A : zA} {m : zM} {f n : Nat} {S i : Int} {dg : Nat → Int} (hA : zfigA A f) (hm : zfigM m f S n dg) (hi : -2147483648 ≤ i ∧ i < 2147483648) : zMet G k_X3_behindPoint [vr f, vi i] A m (zpi A (fun r m' => m = m' ∧ r = zbp n dg i)) := by
  obtain ⟨hA1, hA2, hA3⟩ := hA
  obtain ⟨h1, h2, h3⟩ := hm
  have h2' : m f 6 = -6 ∧ n = 0 ∨ m f 6 = (n : Int) ∧ n ≤ 100 := by rw [h1]; exact h2
  refine zMet.of RX3 rfl (by decide +kernel) (Nat.le_of_ble_eq_true rfl) [some (vr f), some (vi i)] rfl (fun E hG X hQ hNm => ?_)
  subst hG
  refine z_iload_n X dX3_behindPoint_0 rfl ?_
  refine z_iconst X dX3_behindPoint_1 ?_
  refine z_icmp_lt X dX3_behindPoint_2 22 (by decide) (by omega) (by omega) (fun h2 => ?_) (fun h2 => ?_)
  · refine z_bipush X dX3_behindPoint_22 (by decide) ?_
    refine z_goto X dX3_behindPoint_24 35 (by decide) ?_
    refine z_ireturn (st := []) X rfl hQ dX3_behindPoint_35 ⟨rfl, _, rfl, ?_⟩
    refine ⟨rfl, ?_⟩
    unfold zbp
    rw [if_neg (by omega)]
  · refine z_iload_n X dX3_behindPoint_5 rfl ?_
    refine z_aload_n X dX3_behindPoint_6 rfl ?_
    refine z_getI X dX3_behindPoint_7 f_X3_19 rfl (by assumption) ?_
    refine z_icmp_gt X dX3_behindPoint_10 22 (by decide) (by omega) (by omega) (fun h10 => ?_) (fun h10 => ?_)
    · refine z_bipush X dX3_behindPoint_22 (by decide) ?_
      refine z_goto X dX3_behindPoint_24 35 (by decide) ?_
      refine z_ireturn (st := []) X rfl hQ dX3_behindPoint_35 ⟨rfl, _, rfl, ?_⟩
      refine ⟨rfl, ?_⟩
      unfold zbp
      rw [if_neg (by omega)]
    · refine z_iload_n X dX3_behindPoint_13 rfl ?_
      refine z_aload_n X dX3_behindPoint_14 rfl ?_
      refine z_getR X dX3_behindPoint_15 f_X3_9 rfl (by assumption) (by assumption) ?_
      refine z_alen X dX3_behindPoint_18 (by assumption) ?_
      refine z_icmp_le X dX3_behindPoint_19 27 (by decide) (by omega) (by omega) (fun h19 => ?_) (fun h19 => ?_)
      · refine z_aload_n X dX3_behindPoint_27 rfl ?_
        refine z_getR X dX3_behindPoint_28 f_X3_9 rfl (by assumption) (by assumption) ?_
        refine z_iload_n X dX3_behindPoint_31 rfl ?_
        refine z_iconst X dX3_behindPoint_32 ?_
        refine z_isub X dX3_behindPoint_33 ?_
        refine z_iald X ((i - 1).toNat) dX3_behindPoint_34 (by omega) (by assumption) (by omega) (by omega) ?_
        refine z_ireturn (st := []) X rfl hQ dX3_behindPoint_35 ⟨rfl, _, rfl, ?_⟩
        refine ⟨rfl, ?_⟩
        unfold zbp
        rw [if_pos (by omega)]
        exact (h3 _ (by omega)).1
      · refine z_bipush X dX3_behindPoint_22 (by decide) ?_
        refine z_goto X dX3_behindPoint_24 35 (by decide) ?_
        refine z_ireturn (st := []) X rfl hQ dX3_behindPoint_35 ⟨rfl, _, rfl, ?_⟩
        refine ⟨rfl, ?_⟩
        unfold zbp
        rw [if_neg (by omega)]
def zcnt (dg : Nat → Int) (x : Int) : Nat → Nat
  | 0 => 0
  | n + 1 => zcnt dg x n + if dg n = x then 1 else 0
theorem zcnt_s (dg : Nat → Int) (x : Int) (n : Nat) : zcnt dg x (n + 1) = zcnt dg x n + if dg n = x then 1 else 0 := rfl
theorem zcnt_le (dg : Nat → Int) (x : Int) : ∀ n, zcnt dg x n ≤ n
  | 0 => Nat.le_refl _
  | n + 1 => by
    unfold zcnt
    have := zcnt_le dg x n
    split <;> omega
theorem zl_howOften {E : zCx} (X : zOK E cX3_howOften RX3 4 (some .int) k_X3_howOften.2.2.2.2) {A : zA} {m : zM} {f n : Nat} {S x : Int} {dg : Nat → Int} (hA : zfigA A f) (hm : zfigM m f S n dg) (hx : 0 ≤ x ∧ x < 36) {P : Int → zM → Prop} (hQ : zRet E (zpi A P) 0 0) (hP : P (zcnt dg x n : Int) m) : ∀ (r i : Nat), i + r = n → zW E (0, 0) A m 4 [some (vr f), some (vi x), some (vi (zcnt dg x i : Int)), some (vi ((i : Int) + 1))] [] := by
  obtain ⟨hA1, hA2, hA3⟩ := id hA
  obtain ⟨h1, h2, h3⟩ := id hm
  have h2' : m f 6 = -6 ∧ n = 0 ∨ m f 6 = (n : Int) ∧ n ≤ 100 := by rw [h1]; exact h2
  intro r
  induction r with
  | zero =>
    intro i hi
    obtain rfl : i = n := by omega
    have hc := zcnt_le dg x i
    refine z_iload_n X dX3_howOften_4 rfl ?_
    refine z_aload_n X dX3_howOften_5 rfl ?_
    refine z_getI X dX3_howOften_6 f_X3_19 rfl (by assumption) ?_
    refine z_icmp_gt X dX3_howOften_9 30 (by decide) (by omega) (by omega) (fun h9 => ?_) (fun h9 => ?_)
    · refine z_iload_n X dX3_howOften_30 rfl ?_
      refine z_ireturn (st := []) X rfl hQ dX3_howOften_31 ⟨rfl, _, rfl, ?_⟩
      exact hP
    · exact absurd h9 (by omega)
  | succ r ih =>
    intro i hi
    have hc := zcnt_le dg x i
    have hb := zbp_bd (n := n) (dg := dg) (fun j hj => (h3 j hj).2) ((i : Int) + 1)
    have hat := zbp_at (n := n) (dg := dg) (i := (i : Int) + 1) (j := i) rfl (by omega)
    refine z_iload_n X dX3_howOften_4 rfl ?_
    refine z_aload_n X dX3_howOften_5 rfl ?_
    refine z_getI X dX3_howOften_6 f_X3_19 rfl (by assumption) ?_
    refine z_icmp_gt X dX3_howOften_9 30 (by decide) (by omega) (by omega) (fun h9 => ?_) (fun h9 => ?_)
    · exact absurd h9 (by omega)
    · refine z_aload_n X dX3_howOften_12 rfl ?_
      refine z_iload_n X dX3_howOften_13 rfl ?_
      refine z_callVi X (As := [_]) dX3_howOften_14 m_X3_behindPoint i_X3_behindPoint l_X3_22 (c_X3_behindPoint (zg E) hA hm (by omega)) (by first | assumption | exact zbigA.o (by assumption)) rfl rfl rfl (Nat.le_of_ble_eq_true rfl) ⟨Nat.le_of_ble_eq_true rfl, Nat.le_of_ble_eq_true rfl⟩ ⟨Nat.le_of_ble_eq_true rfl, Nat.le_of_ble_eq_true rfl⟩ ⟨rfl, rfl⟩ (fun r1 m1 hm1 => ?_)
      obtain ⟨rfl, rfl⟩ := hm1
      refine z_iload_n X dX3_howOften_17 rfl ?_
      refine z_icmp_ne X dX3_howOften_18 24 (by decide) (by omega) (by omega) (fun h18 => ?_) (fun h18 => ?_)
      · refine z_iinc X dX3_howOften_24 rfl (fun y => [_, _, _, some (vi y)]) (fun _ => rfl) (fun x3_24 hx3_24 => ?_)
        obtain rfl : x3_24 = ((i + 1 : Nat) : Int) + 1 := by omega
        refine z_goto X dX3_howOften_27 4 (by decide) ?_
        have e : zcnt dg x (i + 1) = zcnt dg x i := by rw [zcnt_s, if_neg (by omega)]; rfl
        have h := ih (i + 1) (by omega)
        rw [e] at h
        exact h
      · refine z_iinc X dX3_howOften_21 rfl (fun y => [_, _, some (vi y), _]) (fun _ => rfl) (fun x2_21 hx2_21 => ?_)
        refine z_iinc X dX3_howOften_24 rfl (fun y => [_, _, _, some (vi y)]) (fun _ => rfl) (fun x3_24 hx3_24 => ?_)
        obtain rfl : x3_24 = ((i + 1 : Nat) : Int) + 1 := by omega
        refine z_goto X dX3_howOften_27 4 (by decide) ?_
        have e : zcnt dg x (i + 1) = zcnt dg x i + 1 := by rw [zcnt_s, if_pos (by omega)]
        have h := ih (i + 1) (by omega)
        rw [e] at h
        obtain rfl : x2_21 = ((zcnt dg x i + 1 : Nat) : Int) := by omega
        exact h
theorem c_X3_howOften (G : zG) {A : zA} {m : zM} {f n : Nat} {S x : Int} {dg : Nat → Int} (hA : zfigA A f) (hm : zfigM m f S n dg) (hx : 0 ≤ x ∧ x < 36) : zMet G k_X3_howOften [vr f, vi x] A m (zpi A (fun r m' => m = m' ∧ r = (zcnt dg x n : Int))) := by
  refine zMet.of RX3 rfl (by decide +kernel) (Nat.le_of_ble_eq_true rfl) [some (vr f), some (vi x), none, none] rfl (fun E hG X hQ hNm => ?_)
  subst hG
  refine z_iconst X dX3_howOften_0 ?_
  refine z_istore_n X dX3_howOften_1 (fun y => [_, _, some (vi y), _]) (by decide) (fun _ => rfl) (fun x2_1 hx2_1 => ?_)
  subst hx2_1
  refine z_iconst X dX3_howOften_2 ?_
  refine z_istore_n X dX3_howOften_3 (fun y => [_, _, _, some (vi y)]) (by decide) (fun _ => rfl) (fun x3_3 hx3_3 => ?_)
  subst hx3_3
  exact zl_howOften X hA hm hx hQ ⟨rfl, rfl⟩ n 0 (by omega)
/-- the five bits of a row for its figure i of n -/
def zrow (row : Int) (n i : Nat) : Int := row / ((2 ^ (5 * (n - 1 - i)) : Nat) : Int) % 32
abbrev zcomes (dg : Nat → Int) (row : Int) (n p : Nat) : Prop := ∀ i, i < n → dg (p + i) = zrow row n i
theorem zl_comesAt {E : zCx} (X : zOK E cX3_comesAt RX3 6 (some .boolean) k_X3_comesAt.2.2.2.2) {A : zA} {m : zM} {f n k p : Nat} {S row : Int} {dg : Nat → Int} (hA : zfigA A f) (hm : zfigM m f S n dg) (hrow : -2147483648 ≤ row ∧ row < 2147483648) (hk : 1 ≤ k ∧ k ≤ 5) (hp : p + k ≤ n) {P : Int → zM → Prop} (hQ : zRet E (zpi A P) 0 0) (hP1 : zcomes dg row k p → P 1 m) (hP0 : ¬ zcomes dg row k p → P 0 m) : ∀ (r i : Nat) (l5 : Option Value), i + r = k → (∀ j, j < i → dg (p + j) = zrow row k j) → zW E (0, 0) A m 3 [some (vr f), some (vi ((p : Int) + 1)), some (vi row), some (vi (k : Int)), some (vi (i : Int)), l5] [] := by
  obtain ⟨hA1, hA2, hA3⟩ := id hA
  obtain ⟨h1, h2, h3⟩ := id hm
  have h2' : m f 6 = -6 ∧ n = 0 ∨ m f 6 = (n : Int) ∧ n ≤ 100 := by rw [h1]; exact h2
  intro r
  induction r with
  | zero =>
    intro i l5 hi hs
    obtain rfl : i = k := by omega
    refine z_iload X dX3_comesAt_3 rfl ?_
    refine z_iload_n X dX3_comesAt_5 rfl ?_
    refine z_icmp_ge X dX3_comesAt_6 45 (by decide) (by omega) (by omega) (fun h6 => ?_) (fun h6 => ?_)
    · refine z_iconst X dX3_comesAt_45 ?_
      refine z_zreturn (st := []) X rfl hQ dX3_comesAt_46 (by first | exact Or.inl rfl | exact Or.inr rfl | omega) ⟨rfl, _, rfl, ?_⟩
      exact hP1 hs
    · exact absurd h6 (by omega)
  | succ r ih =>
    intro i l5 hi hs
    have hb := zbp_bd (n := n) (dg := dg) (fun j hj => (h3 j hj).2) ((p : Int) + 1 + (i : Int))
    have hat := zbp_at (n := n) (dg := dg) (i := (p : Int) + 1 + (i : Int)) (j := p + i) (by omega) (by omega)
    refine z_iload X dX3_comesAt_3 rfl ?_
    refine z_iload_n X dX3_comesAt_5 rfl ?_
    refine z_icmp_ge X dX3_comesAt_6 45 (by decide) (by omega) (by omega) (fun h6 => ?_) (fun h6 => ?_)
    · exact absurd h6 (by omega)
    · refine z_iload_n X dX3_comesAt_9 rfl ?_
      refine z_iconst X dX3_comesAt_10 ?_
      refine z_iload_n X dX3_comesAt_11 rfl ?_
      refine z_iconst X dX3_comesAt_12 ?_
      refine z_isub X dX3_comesAt_13 ?_
      refine z_iload X dX3_comesAt_14 rfl ?_
      refine z_isub X dX3_comesAt_16 ?_
      refine z_imul X dX3_comesAt_17 ?_
      refine z_ishr X dX3_comesAt_18 (5 * (k - 1 - i)) (((2 ^ (5 * (k - 1 - i)) : Nat) : Int)) (by omega) (by omega) rfl (by omega) ?_
      refine z_bipush X dX3_comesAt_19 (by decide) ?_
      refine z_iand X dX3_comesAt_21 5 (by omega) (by decide) 32 (by decide) ?_
      refine z_istore X dX3_comesAt_22 (fun y => [_, _, _, _, _, some (vi y)]) (by decide) (fun _ => rfl) (fun z hz => ?_)
      have hz' : z = zrow row k i := hz
      have hz0 : 0 ≤ z ∧ z < 32 := by omega
      refine z_aload_n X dX3_comesAt_24 rfl ?_
      refine z_iload_n X dX3_comesAt_25 rfl ?_
      refine z_iload X dX3_comesAt_26 rfl ?_
      refine z_iadd X dX3_comesAt_28 ?_
      refine z_callVi X (As := [_]) dX3_comesAt_29 m_X3_behindPoint i_X3_behindPoint l_X3_22 (c_X3_behindPoint (zg E) hA hm (by omega)) (by first | assumption | exact zbigA.o (by assumption)) rfl rfl rfl (Nat.le_of_ble_eq_true rfl) ⟨Nat.le_of_ble_eq_true rfl, Nat.le_of_ble_eq_true rfl⟩ ⟨Nat.le_of_ble_eq_true rfl, Nat.le_of_ble_eq_true rfl⟩ ⟨rfl, rfl⟩ (fun r1 m1 hm1 => ?_)
      obtain ⟨rfl, rfl⟩ := hm1
      refine z_iload X dX3_comesAt_32 rfl ?_
      refine z_icmp_eq X dX3_comesAt_34 39 (by decide) (by omega) (by omega) (fun h34 => ?_) (fun h34 => ?_)
      · refine z_iinc X dX3_comesAt_39 rfl (fun y => [_, _, _, _, some (vi y), _]) (fun _ => rfl) (fun x4_39 hx4_39 => ?_)
        obtain rfl : x4_39 = ((i + 1 : Nat) : Int) := by omega
        refine z_goto X dX3_comesAt_42 3 (by decide) ?_
        refine ih (i + 1) _ (by omega) (fun j hj => ?_)
        by_cases hji : j = i
        · rw [hji]; omega
        · exact hs j (by omega)
      · refine z_iconst X dX3_comesAt_37 ?_
        refine z_zreturn (st := []) X rfl hQ dX3_comesAt_38 (by first | exact Or.inl rfl | exact Or.inr rfl | omega) ⟨rfl, _, rfl, ?_⟩
        exact hP0 (fun h => by have := h i (by omega); omega)
theorem c_X3_comesAt (G : zG) {A : zA} {m : zM} {f n k p : Nat} {S row pi ki : Int} {dg : Nat → Int} (hA : zfigA A f) (hm : zfigM m f S n dg) (hrow : -2147483648 ≤ row ∧ row < 2147483648) (hpi : pi = (p : Int) + 1) (hki : ki = (k : Int)) (hk : 1 ≤ k ∧ k ≤ 5) (hp : p + k ≤ n) : zMet G k_X3_comesAt [vr f, vi pi, vi row, vi ki] A m (zpi A (fun r m' => m = m' ∧ ((r = 1 ∧ zcomes dg row k p) ∨ (r = 0 ∧ ¬ zcomes dg row k p)))) := by
  subst hpi
  subst hki
  refine zMet.of RX3 rfl (by decide +kernel) (Nat.le_of_ble_eq_true rfl) [some (vr f), some (vi ((p : Int) + 1)), some (vi row), some (vi (k : Int)), none, none] rfl (fun E hG X hQ hNm => ?_)
  subst hG
  refine z_iconst X dX3_comesAt_0 ?_
  refine z_istore X dX3_comesAt_1 (fun y => [_, _, _, _, some (vi y), _]) (by decide) (fun _ => rfl) (fun x4_1 hx4_1 => ?_)
  subst hx4_1
  exact zl_comesAt X hA hm hrow hk hp hQ (fun h => ⟨rfl, Or.inl ⟨rfl, h⟩⟩) (fun h => ⟨rfl, Or.inr ⟨rfl, h⟩⟩) k 0 none (by omega) (fun j hj => absurd hj (by omega))
def zplc (dg : Nat → Int) (row : Int) (k : Nat) : Nat → Nat → Int
  | _, 0 => -6
  | p, n + 1 => if zcomes dg row k p then (p : Int) + 1 else zplc dg row k (p + 1) n
theorem zl_placeOf {E : zCx} (X : zOK E cX3_placeOf RX3 4 (some .int) k_X3_placeOf.2.2.2.2) {A : zA} {m : zM} {f n k : Nat} {S row : Int} {dg : Nat → Int} (hA : zfigA A f) (hm : zfigM m f S n dg) (hrow : -2147483648 ≤ row ∧ row < 2147483648) (hk : 1 ≤ k ∧ k ≤ 5) {R : Int} {P : Int → zM → Prop} (hQ : zRet E (zpi A P) 0 0) (hP : P R m) : ∀ (r p : Nat), (r = 0 ∧ n < p + k ∧ p ≤ 100) ∨ (p + r + k = n + 1) → zplc dg row k p r = R → zW E (0, 0) A m 2 [some (vr f), some (vi row), some (vi (k : Int)), some (vi ((p : Int) + 1))] [] := by
  obtain ⟨hA1, hA2, hA3⟩ := id hA
  obtain ⟨h1, h2, h3⟩ := id hm
  have h2' : m f 6 = -6 ∧ n = 0 ∨ m f 6 = (n : Int) ∧ n ≤ 100 := by rw [h1]; exact h2
  intro r
  induction r with
  | zero =>
    intro p hp hR
    refine z_iload_n X dX3_placeOf_2 rfl ?_
    refine z_iload_n X dX3_placeOf_3 rfl ?_
    refine z_iadd X dX3_placeOf_4 ?_
    refine z_iconst X dX3_placeOf_5 ?_
    refine z_isub X dX3_placeOf_6 ?_
    refine z_aload_n X dX3_placeOf_7 rfl ?_
    refine z_getI X dX3_placeOf_8 f_X3_19 rfl (by assumption) ?_
    refine z_icmp_gt X dX3_placeOf_11 32 (by decide) (by omega) (by omega) (fun h11 => ?_) (fun h11 => ?_)
    · refine z_bipush X dX3_placeOf_32 (by decide) ?_
      refine z_ireturn (st := []) X rfl hQ dX3_placeOf_34 ⟨rfl, _, rfl, ?_⟩
      have : R = -6 := hR.symm
      rw [this] at hP
      exact hP
    · exact absurd h11 (by omega)
  | succ r ih =>
    intro p hp hR
    unfold zplc at hR
    refine z_iload_n X dX3_placeOf_2 rfl ?_
    refine z_iload_n X dX3_placeOf_3 rfl ?_
    refine z_iadd X dX3_placeOf_4 ?_
    refine z_iconst X dX3_placeOf_5 ?_
    refine z_isub X dX3_placeOf_6 ?_
    refine z_aload_n X dX3_placeOf_7 rfl ?_
    refine z_getI X dX3_placeOf_8 f_X3_19 rfl (by assumption) ?_
    refine z_icmp_gt X dX3_placeOf_11 32 (by decide) (by omega) (by omega) (fun h11 => ?_) (fun h11 => ?_)
    · exact absurd h11 (by omega)
    · refine z_aload_n X dX3_placeOf_14 rfl ?_
      refine z_iload_n X dX3_placeOf_15 rfl ?_
      refine z_iload_n X dX3_placeOf_16 rfl ?_
      refine z_iload_n X dX3_placeOf_17 rfl ?_
      refine z_callVi X (As := [_, _, _]) dX3_placeOf_18 m_X3_comesAt i_X3_comesAt l_X3_26 (c_X3_comesAt (zg E) hA hm hrow rfl rfl hk (by omega)) (by first | assumption | exact zbigA.o (by assumption)) rfl rfl rfl (Nat.le_of_ble_eq_true rfl) ⟨Nat.le_of_ble_eq_true rfl, Nat.le_of_ble_eq_true rfl⟩ ⟨Nat.le_of_ble_eq_true rfl, Nat.le_of_ble_eq_true rfl⟩ ⟨rfl, rfl⟩ (fun r1 m1 hm1 => ?_)
      obtain ⟨rfl, hr1⟩ := hm1
      refine z_if_eq X dX3_placeOf_21 26 (by decide) (by omega) (fun h21 => ?_) (fun h21 => ?_)
      · refine z_iinc X dX3_placeOf_26 rfl (fun y => [_, _, _, some (vi y)]) (fun _ => rfl) (fun x3_26 hx3_26 => ?_)
        obtain rfl : x3_26 = ((p + 1 : Nat) : Int) + 1 := by omega
        refine z_goto X dX3_placeOf_29 2 (by decide) ?_
        refine ih (p + 1) (by omega) ?_
        rcases hr1 with ⟨hr1, _⟩ | ⟨_, hr1⟩
        · omega
        · rw [if_neg hr1] at hR
          exact hR
      · refine z_iload_n X dX3_placeOf_24 rfl ?_
        refine z_ireturn (st := []) X rfl hQ dX3_placeOf_25 ⟨rfl, _, rfl, ?_⟩
        rcases hr1 with ⟨_, hr1⟩ | ⟨hr1, _⟩
        · rw [if_pos hr1] at hR
          rw [hR]
          exact hP
        · exact absurd hr1 h21
theorem c_X3_placeOf (G : zG) {A : zA} {m : zM} {f n k : Nat} {S row ki : Int} {dg : Nat → Int} (hA : zfigA A f) (hm : zfigM m f S n dg) (hrow : -2147483648 ≤ row ∧ row < 2147483648) (hki : ki = (k : Int)) (hk : 1 ≤ k ∧ k ≤ 5) : zMet G k_X3_placeOf [vr f, vi row, vi ki] A m (zpi A (fun r m' => m = m' ∧ r = zplc dg row k 0 (n + 1 - k))) := by
  subst hki
  refine zMet.of RX3 rfl (by decide +kernel) (Nat.le_of_ble_eq_true rfl) [some (vr f), some (vi row), some (vi (k : Int)), none] rfl (fun E hG X hQ hNm => ?_)
  subst hG
  refine z_iconst X dX3_placeOf_0 ?_
  refine z_istore_n X dX3_placeOf_1 (fun y => [_, _, _, some (vi y)]) (by decide) (fun _ => rfl) (fun x3_1 hx3_1 => ?_)
  subst hx3_1
  exact zl_placeOf X hA hm hrow hk hQ ⟨rfl, rfl⟩ (n + 1 - k) 0 (by omega) rfl

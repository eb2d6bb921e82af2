/-! Enclosure: open, addUpon, add, scale -/
def zencA (A : zA) (e : Nat) : Prop := A.1 e = some (.inl 2) ∧ (A.2.1 e 0 = some (e + 1) ∧ A.2.1 e 1 = some (e + 3) ∧ A.2.1 e 2 = some (e + 5) ∧ A.2.1 e 3 = some (e + 7)) ∧ zbigA A (e + 1) 660 ∧ zbigA A (e + 3) 660 ∧ zbigA A (e + 5) 660 ∧ zbigA A (e + 7) 660
theorem c_X2_open (G : zG) {A : zA} {m : zM} {e : Nat} (hA : zencA A e) : zMet G k_X2_open [vr e] A m (zpv A (fun m' => zbi m' (e + 1) 660 0 ∧ zbi m' (e + 3) 660 0 ∧ zbi m' (e + 5) 660 1 ∧ zout m m' e e)) := by
  obtain ⟨hA1, ⟨hA2, hA3, hA4, hA5⟩, hb1, hb2, hb3, hb4⟩ := hA
  have hF : zout m m e e := fun _ _ _ _ => rfl
  refine zMet.of RX2 rfl (by decide +kernel) (Nat.le_of_ble_eq_true rfl) [some (vr e)] rfl (fun E hG X hQ hNm => ?_)
  subst hG
  refine z_aload_n X dX2_open_0 rfl ?_
  refine z_getR X dX2_open_1 f_X2_14 rfl (by first | assumption | exact zbigA.o (by assumption)) (by assumption) ?_
  refine z_iconst X dX2_open_4 ?_
  refine z_callVv X (As := [_]) dX2_open_5 m_X0_put i_X0_put l_X2_29 (c_X0_put (zg E) hb1 (by omega)) (by first | assumption | exact zbigA.o (by assumption)) rfl rfl rfl (Nat.le_of_ble_eq_true rfl) ⟨Nat.le_of_ble_eq_true rfl, Nat.le_of_ble_eq_true rfl⟩ ⟨Nat.le_of_ble_eq_true rfl, Nat.le_of_ble_eq_true rfl⟩ ⟨rfl, rfl⟩ (fun m1 hm => ?_)
  obtain ⟨hl, hf⟩ := hm
  have hF := hF.k hf (by omega)
  refine z_aload_n X dX2_open_8 rfl ?_
  refine z_getR X dX2_open_9 f_X2_20 rfl (by first | assumption | exact zbigA.o (by assumption)) (by assumption) ?_
  refine z_iconst X dX2_open_12 ?_
  refine z_callVv X (As := [_]) dX2_open_13 m_X0_put i_X0_put l_X2_29 (c_X0_put (zg E) hb2 (by omega)) (by first | assumption | exact zbigA.o (by assumption)) rfl rfl rfl (Nat.le_of_ble_eq_true rfl) ⟨Nat.le_of_ble_eq_true rfl, Nat.le_of_ble_eq_true rfl⟩ ⟨Nat.le_of_ble_eq_true rfl, Nat.le_of_ble_eq_true rfl⟩ ⟨rfl, rfl⟩ (fun m2 hm => ?_)
  obtain ⟨hh, hf⟩ := hm
  have hF := hF.k hf (by omega)
  have hl := hl.k hf (by omega)
  refine z_aload_n X dX2_open_16 rfl ?_
  refine z_getR X dX2_open_17 f_X2_23 rfl (by first | assumption | exact zbigA.o (by assumption)) (by assumption) ?_
  refine z_iconst X dX2_open_20 ?_
  refine z_callVv X (As := [_]) dX2_open_21 m_X0_put i_X0_put l_X2_29 (c_X0_put (zg E) hb3 (by omega)) (by first | assumption | exact zbigA.o (by assumption)) rfl rfl rfl (Nat.le_of_ble_eq_true rfl) ⟨Nat.le_of_ble_eq_true rfl, Nat.le_of_ble_eq_true rfl⟩ ⟨Nat.le_of_ble_eq_true rfl, Nat.le_of_ble_eq_true rfl⟩ ⟨rfl, rfl⟩ (fun m3 hm => ?_)
  obtain ⟨hu, hf⟩ := hm
  have hF := hF.k hf (by omega)
  have hl := hl.k hf (by omega)
  have hh := hh.k hf (by omega)
  refine z_return (st := []) X rfl hQ dX2_open_24 ⟨rfl, rfl, ?_⟩
  exact ⟨hl, hh, hu, hF⟩
theorem c_X2_addUpon (G : zG) {A : zA} {m : zM} {e x y w k : Nat} {S P U D : Int} (hA : zencA A e) (hxx : x = e + 1 ∨ x = e + 3) (hY : zbigA A y 170) (hW : zbigA A w 170) (hy : y + 2 ≤ e ∨ e + 9 ≤ y) (hw : w + 2 ≤ e ∨ e + 9 ≤ w) (hk : k ≤ 3) (hS : zbi m x 660 S) (hP : zbi m y 170 P) (hU : zbi m w 170 U) (hD : zbi m (e + 5) 660 D) (bS : zle S (4840 * k + 8 + k)) (bP : zle P 4848) (bU : zle U 4840) (bD : zle D (4840 * k)) :
    zMet G k_X2_addUpon [vr e, vr x, vr y, vr w] A m (zpv A (fun m' => zbi m' x 660 (P * D + S * U) ∧ zle (P * D + S * U) (4840 * (k + 1) + 8 + (k + 1)) ∧ ∀ a j, a ≠ x → a ≠ x + 1 → a ≠ e + 7 → a ≠ e + 8 → m' a j = m a j)) := by
  obtain ⟨hA1, ⟨hA2, hA3, hA4, hA5⟩, hb1, hb2, hb3, hb4⟩ := hA
  have hX : zbigA A x 660 := by rcases hxx with rfl | rfl <;> assumption
  have b1 := (bS.mul bU).mono (b := 4840 * (k + 1) + 8 + k) (by omega)
  have b2 := (bP.mul bD).mono (b := 4840 * (k + 1) + 8 + k) (by omega)
  have b3 := b2.add b1
  refine zMet.of RX2 rfl (by decide +kernel) (Nat.le_of_ble_eq_true rfl) [some (vr e), some (vr x), some (vr y), some (vr w)] rfl (fun E hG X hQ hNm => ?_)
  subst hG
  refine z_aload_n X dX2_addUpon_0 rfl ?_
  refine z_getR X dX2_addUpon_1 f_X2_26 rfl (by first | assumption | exact zbigA.o (by assumption)) (by assumption) ?_
  refine z_aload_n X dX2_addUpon_4 rfl ?_
  refine z_aload_n X dX2_addUpon_5 rfl ?_
  refine z_callVv X (As := [_, _]) dX2_addUpon_6 m_X0_product i_X0_product l_X2_36 (c_X0_product (zg E) hb4 hX hW (by omega) (by omega) hS hU (bS.lt (N := (4840 * k + 8 + k) / 30 + 1) (by omega)) (bU.lt (N := 162) (by omega)) (by omega)) (by first | assumption | exact zbigA.o (by assumption)) rfl rfl rfl (Nat.le_of_ble_eq_true rfl) ⟨Nat.le_of_ble_eq_true rfl, Nat.le_of_ble_eq_true rfl⟩ ⟨Nat.le_of_ble_eq_true rfl, Nat.le_of_ble_eq_true rfl⟩ ⟨rfl, rfl⟩ (fun m1 hm => ?_)
  obtain ⟨hs, hf1⟩ := hm
  have hP := hP.k hf1 (by omega)
  have hD := hD.k hf1 (by omega)
  refine z_aload_n X dX2_addUpon_9 rfl ?_
  refine z_aload_n X dX2_addUpon_10 rfl ?_
  refine z_aload_n X dX2_addUpon_11 rfl ?_
  refine z_getR X dX2_addUpon_12 f_X2_23 rfl (by first | assumption | exact zbigA.o (by assumption)) (by assumption) ?_
  refine z_callVv X (As := [_, _]) dX2_addUpon_15 m_X0_product i_X0_product l_X2_36 (c_X0_product (zg E) hX hY hb3 (by omega) (by omega) hP hD (bP.lt (N := 162) (by omega)) (bD.lt (N := (4840 * k) / 30 + 1) (by omega)) (by omega)) (by first | assumption | exact zbigA.o (by assumption)) rfl rfl rfl (Nat.le_of_ble_eq_true rfl) ⟨Nat.le_of_ble_eq_true rfl, Nat.le_of_ble_eq_true rfl⟩ ⟨Nat.le_of_ble_eq_true rfl, Nat.le_of_ble_eq_true rfl⟩ ⟨rfl, rfl⟩ (fun m2 hm => ?_)
  obtain ⟨hx, hf2⟩ := hm
  have hs := hs.k hf2 (by omega)
  refine z_aload_n X dX2_addUpon_18 rfl ?_
  refine z_aload_n X dX2_addUpon_19 rfl ?_
  refine z_getR X dX2_addUpon_20 f_X2_26 rfl (by first | assumption | exact zbigA.o (by assumption)) (by assumption) ?_
  refine z_callVv X (As := [_]) dX2_addUpon_23 m_X0_plus i_X0_plus l_X2_44 (c_X0_plus (zg E) hX hb4 (by omega) hx hs (b1.lt (by omega)) (b3.lt (by omega))) (by first | assumption | exact zbigA.o (by assumption)) rfl rfl rfl (Nat.le_of_ble_eq_true rfl) ⟨Nat.le_of_ble_eq_true rfl, Nat.le_of_ble_eq_true rfl⟩ ⟨Nat.le_of_ble_eq_true rfl, Nat.le_of_ble_eq_true rfl⟩ ⟨rfl, rfl⟩ (fun m3 hm => ?_)
  refine z_return (st := []) X rfl hQ dX2_addUpon_26 ⟨rfl, rfl, ?_⟩
  exact ⟨hm.1, b3.mono (by omega), fun a j h1 h2 h3 h4 => ((hm.2 a j h1 h2).trans (hf2 a j h1 h2)).trans (hf1 a j h3 h4)⟩
theorem c_X2_add (G : zG) {A : zA} {m : zM} {e x y w k : Nat} {L H P R U D : Int} (hA : zencA A e) (hX : zbigA A x 170) (hY : zbigA A y 170) (hW : zbigA A w 170) (hx : x + 2 ≤ e ∨ e + 9 ≤ x) (hy : y + 2 ≤ e ∨ e + 9 ≤ y) (hw : w + 2 ≤ e ∨ e + 9 ≤ w) (hk : k ≤ 3) (hL : zbi m (e + 1) 660 L) (hH : zbi m (e + 3) 660 H) (hD : zbi m (e + 5) 660 D) (hP : zbi m x 170 P) (hR : zbi m y 170 R) (hU : zbi m w 170 U) (bL : zle L (4840 * k + 8 + k)) (bH : zle H (4840 * k + 8 + k)) (bD : zle D (4840 * k)) (bP : zle P 4848) (bR : zle R 4848) (bU : zle U 4840) :
    zMet G k_X2_add [vr e, vr x, vr y, vr w] A m (zpv A (fun m' => (zbi m' (e + 1) 660 (P * D + L * U) ∧ zle (P * D + L * U) (4840 * (k + 1) + 8 + (k + 1))) ∧ (zbi m' (e + 3) 660 (R * D + H * U) ∧ zle (R * D + H * U) (4840 * (k + 1) + 8 + (k + 1))) ∧ (zbi m' (e + 5) 660 (D * U) ∧ zle (D * U) (4840 * (k + 1))) ∧ zout m m' e e)) := by
  obtain ⟨hA1, ⟨hA2, hA3, hA4, hA5⟩, hb1, hb2, hb3, hb4⟩ := id hA
  have bDU := (bD.mul bU).mono (b := 4840 * (k + 1)) (by omega)
  refine zMet.of RX2 rfl (by decide +kernel) (Nat.le_of_ble_eq_true rfl) [some (vr e), some (vr x), some (vr y), some (vr w)] rfl (fun E hG X hQ hNm => ?_)
  subst hG
  refine z_aload_n X dX2_add_0 rfl ?_
  refine z_aload_n X dX2_add_1 rfl ?_
  refine z_getR X dX2_add_2 f_X2_14 rfl (by first | assumption | exact zbigA.o (by assumption)) (by assumption) ?_
  refine z_aload_n X dX2_add_5 rfl ?_
  refine z_aload_n X dX2_add_6 rfl ?_
  refine z_callVv X (As := [_, _, _]) dX2_add_7 m_X2_addUpon i_X2_addUpon l_X2_32 (c_X2_addUpon (zg E) hA (Or.inl rfl) hX hW hx hw hk hL hP hU hD bL bP bU bD) (by first | assumption | exact zbigA.o (by assumption)) rfl rfl rfl (Nat.le_of_ble_eq_true rfl) ⟨Nat.le_of_ble_eq_true rfl, Nat.le_of_ble_eq_true rfl⟩ ⟨Nat.le_of_ble_eq_true rfl, Nat.le_of_ble_eq_true rfl⟩ ⟨rfl, rfl⟩ (fun m1 hm => ?_)
  obtain ⟨hL', bL', hf1⟩ := hm
  have hH := hH.fr (m' := m1) (fun j => hf1 _ _ (by omega) (by omega) (by omega) (by omega)) (fun j => hf1 _ _ (by omega) (by omega) (by omega) (by omega))
  have hD := hD.fr (m' := m1) (fun j => hf1 _ _ (by omega) (by omega) (by omega) (by omega)) (fun j => hf1 _ _ (by omega) (by omega) (by omega) (by omega))
  have hR := hR.fr (m' := m1) (fun j => hf1 _ _ (by omega) (by omega) (by omega) (by omega)) (fun j => hf1 _ _ (by omega) (by omega) (by omega) (by omega))
  have hU := hU.fr (m' := m1) (fun j => hf1 _ _ (by omega) (by omega) (by omega) (by omega)) (fun j => hf1 _ _ (by omega) (by omega) (by omega) (by omega))
  refine z_aload_n X dX2_add_10 rfl ?_
  refine z_aload_n X dX2_add_11 rfl ?_
  refine z_getR X dX2_add_12 f_X2_20 rfl (by first | assumption | exact zbigA.o (by assumption)) (by assumption) ?_
  refine z_aload_n X dX2_add_15 rfl ?_
  refine z_aload_n X dX2_add_16 rfl ?_
  refine z_callVv X (As := [_, _, _]) dX2_add_17 m_X2_addUpon i_X2_addUpon l_X2_32 (c_X2_addUpon (zg E) hA (Or.inr rfl) hY hW hy hw hk hH hR hU hD bH bR bU bD) (by first | assumption | exact zbigA.o (by assumption)) rfl rfl rfl (Nat.le_of_ble_eq_true rfl) ⟨Nat.le_of_ble_eq_true rfl, Nat.le_of_ble_eq_true rfl⟩ ⟨Nat.le_of_ble_eq_true rfl, Nat.le_of_ble_eq_true rfl⟩ ⟨rfl, rfl⟩ (fun m2 hm => ?_)
  obtain ⟨hH', bH', hf2⟩ := hm
  have hL' := hL'.fr (m' := m2) (fun j => hf2 _ _ (by omega) (by omega) (by omega) (by omega)) (fun j => hf2 _ _ (by omega) (by omega) (by omega) (by omega))
  have hD := hD.fr (m' := m2) (fun j => hf2 _ _ (by omega) (by omega) (by omega) (by omega)) (fun j => hf2 _ _ (by omega) (by omega) (by omega) (by omega))
  have hU := hU.fr (m' := m2) (fun j => hf2 _ _ (by omega) (by omega) (by omega) (by omega)) (fun j => hf2 _ _ (by omega) (by omega) (by omega) (by omega))
  refine z_aload_n X dX2_add_20 rfl ?_
  refine z_getR X dX2_add_21 f_X2_26 rfl (by first | assumption | exact zbigA.o (by assumption)) (by assumption) ?_
  refine z_aload_n X dX2_add_24 rfl ?_
  refine z_getR X dX2_add_25 f_X2_23 rfl (by first | assumption | exact zbigA.o (by assumption)) (by assumption) ?_
  refine z_aload_n X dX2_add_28 rfl ?_
  refine z_callVv X (As := [_, _]) dX2_add_29 m_X0_product i_X0_product l_X2_36 (c_X0_product (zg E) hb4 hb3 hW (by omega) (by omega) hD hU (bD.lt (N := (4840 * k) / 30 + 1) (by omega)) (bU.lt (N := 162) (by omega)) (by omega)) (by first | assumption | exact zbigA.o (by assumption)) rfl rfl rfl (Nat.le_of_ble_eq_true rfl) ⟨Nat.le_of_ble_eq_true rfl, Nat.le_of_ble_eq_true rfl⟩ ⟨Nat.le_of_ble_eq_true rfl, Nat.le_of_ble_eq_true rfl⟩ ⟨rfl, rfl⟩ (fun m3 hm => ?_)
  obtain ⟨hs, hf3⟩ := hm
  have hL' := hL'.k hf3 (by omega)
  have hH' := hH'.k hf3 (by omega)
  refine z_aload_n X dX2_add_32 rfl ?_
  refine z_getR X dX2_add_33 f_X2_23 rfl (by first | assumption | exact zbigA.o (by assumption)) (by assumption) ?_
  refine z_aload_n X dX2_add_36 rfl ?_
  refine z_getR X dX2_add_37 f_X2_26 rfl (by first | assumption | exact zbigA.o (by assumption)) (by assumption) ?_
  refine z_callVv X (As := [_]) dX2_add_40 m_X0_copy i_X0_copy l_X2_40 (c_X0_copy (zg E) hb3 hb4 (by omega) hs (bDU.lt (by omega))) (by first | assumption | exact zbigA.o (by assumption)) rfl rfl rfl (Nat.le_of_ble_eq_true rfl) ⟨Nat.le_of_ble_eq_true rfl, Nat.le_of_ble_eq_true rfl⟩ ⟨Nat.le_of_ble_eq_true rfl, Nat.le_of_ble_eq_true rfl⟩ ⟨rfl, rfl⟩ (fun m4 hm => ?_)
  obtain ⟨hD', hf4⟩ := hm
  have hL' := hL'.k hf4 (by omega)
  have hH' := hH'.k hf4 (by omega)
  refine z_return (st := []) X rfl hQ dX2_add_43 ⟨rfl, rfl, ?_⟩
  exact ⟨⟨hL', bL'⟩, ⟨hH', bH'⟩, ⟨hD', bDU⟩, fun a j h1 h2 => (((hf4 a j (by omega) (by omega)).trans (hf3 a j (by omega) (by omega))).trans (hf2 a j (by omega) (by omega) (by omega) (by omega))).trans (hf1 a j (by omega) (by omega) (by omega) (by omega))⟩
theorem zle_2 (n : Nat) : zle ((2 ^ n : Nat) : Int) n := by unfold zle; rw [Int.natAbs_natCast]; exact Nat.le_refl _
theorem c_X2_scale (G : zG) {A : zA} {m : zM} {e : Nat} {L H D : Int} (hA : zencA A e) (hL : zbi m (e + 1) 660 L) (hH : zbi m (e + 3) 660 H) (hD : zbi m (e + 5) 660 D) (bL : zle L 19372) (bH : zle H 19372) (bD : zle D 19360) (hD0 : 0 < D) :
    zMet G k_X2_scale [vr e] A m (zpv A (fun m' => ∃ (X : Int) (t : Nat), 0 < X ∧ zbi m' (e + 1) 660 (L * X) ∧ zbi m' (e + 3) 660 (H * X) ∧ zbi m' (e + 5) 660 (D * (4611686018427387904 * X)) ∧ t + 1 ≤ 660 ∧ D * (4611686018427387904 * X) < 1073741824 ^ t ∧ 1073741824 ^ t ≤ 2 * (D * (4611686018427387904 * X)) ∧ zout m m' e e)) := by
  obtain ⟨hA1, ⟨hA2, hA3, hA4, hA5⟩, hb1, hb2, hb3, hb4⟩ := id hA
  have hF : zout m m e e := fun _ _ _ _ => rfl
  have d1 : zle (D * 1073741824) (19360 + 30) := bD.mul (zle_2 30)
  have d2 : zle (D * 1073741824 * 1073741824) (19360 + 30 + 30) := d1.mul (zle_2 30)
  have d3 : zle (D * 1073741824 * 1073741824 * 4) (19360 + 30 + 30 + 2) := d2.mul (zle_2 2)
  refine zMet.of RX2 rfl (by decide +kernel) (Nat.le_of_ble_eq_true rfl) [some (vr e), none] rfl (fun E hG X hQ hNm => ?_)
  subst hG
  refine z_aload_n X dX2_scale_0 rfl ?_
  refine z_getR X dX2_scale_1 f_X2_23 rfl (by first | assumption | exact zbigA.o (by assumption)) (by assumption) ?_
  refine z_ldc X dX2_scale_4 q_X2_82 (1073741824) (by decide) ?_
  refine z_callVv X (As := [_]) dX2_scale_6 m_X0_times i_X0_times l_X2_83 (c_X0_times (zg E) hb3 hD (by omega) (d1.lt (by omega))) (by first | assumption | exact zbigA.o (by assumption)) rfl rfl rfl (Nat.le_of_ble_eq_true rfl) ⟨Nat.le_of_ble_eq_true rfl, Nat.le_of_ble_eq_true rfl⟩ ⟨Nat.le_of_ble_eq_true rfl, Nat.le_of_ble_eq_true rfl⟩ ⟨rfl, rfl⟩ (fun m1 hm => ?_)
  obtain ⟨hD, hf⟩ := hm
  have hF := hF.k hf (by omega)
  have hL := hL.k hf (by omega)
  have hH := hH.k hf (by omega)
  refine z_aload_n X dX2_scale_9 rfl ?_
  refine z_getR X dX2_scale_10 f_X2_23 rfl (by first | assumption | exact zbigA.o (by assumption)) (by assumption) ?_
  refine z_ldc X dX2_scale_13 q_X2_82 (1073741824) (by decide) ?_
  refine z_callVv X (As := [_]) dX2_scale_15 m_X0_times i_X0_times l_X2_83 (c_X0_times (zg E) hb3 hD (by omega) (d2.lt (by omega))) (by first | assumption | exact zbigA.o (by assumption)) rfl rfl rfl (Nat.le_of_ble_eq_true rfl) ⟨Nat.le_of_ble_eq_true rfl, Nat.le_of_ble_eq_true rfl⟩ ⟨Nat.le_of_ble_eq_true rfl, Nat.le_of_ble_eq_true rfl⟩ ⟨rfl, rfl⟩ (fun m2 hm => ?_)
  obtain ⟨hD, hf⟩ := hm
  have hF := hF.k hf (by omega)
  have hL := hL.k hf (by omega)
  have hH := hH.k hf (by omega)
  refine z_aload_n X dX2_scale_18 rfl ?_
  refine z_getR X dX2_scale_19 f_X2_23 rfl (by first | assumption | exact zbigA.o (by assumption)) (by assumption) ?_
  refine z_iconst X dX2_scale_22 ?_
  refine z_callVv X (As := [_]) dX2_scale_23 m_X0_times i_X0_times l_X2_83 (c_X0_times (zg E) hb3 hD (by omega) (d3.lt (by omega))) (by first | assumption | exact zbigA.o (by assumption)) rfl rfl rfl (Nat.le_of_ble_eq_true rfl) ⟨Nat.le_of_ble_eq_true rfl, Nat.le_of_ble_eq_true rfl⟩ ⟨Nat.le_of_ble_eq_true rfl, Nat.le_of_ble_eq_true rfl⟩ ⟨rfl, rfl⟩ (fun m3 hm => ?_)
  obtain ⟨hD, hf⟩ := hm
  have hF := hF.k hf (by omega)
  have hL := hL.k hf (by omega)
  have hH := hH.k hf (by omega)
  obtain ⟨n, hr, ht, hv, hs⟩ := hD.abs
  have hn1 := hr.1
  have hn2 := hr.2.1
  refine z_bipush X dX2_scale_26 (by decide) ?_
  refine z_aload_n X dX2_scale_28 rfl ?_
  refine z_getR X dX2_scale_29 f_X2_23 rfl (by first | assumption | exact zbigA.o (by assumption)) (by assumption) ?_
  refine z_getI X dX2_scale_32 f_X2_47 rfl (by first | assumption | exact zbigA.o (by assumption)) ?_
  refine z_imul X dX2_scale_35 ?_
  refine z_aload_n X dX2_scale_36 rfl ?_
  refine z_getR X dX2_scale_37 f_X2_23 rfl (by first | assumption | exact zbigA.o (by assumption)) (by assumption) ?_
  refine z_callVi X (As := []) dX2_scale_40 m_X0_bitLength i_X0_bitLength l_X2_86 (c_X0_bitLength (zg E) hb3 hD) (by first | assumption | exact zbigA.o (by assumption)) rfl rfl rfl (Nat.le_of_ble_eq_true rfl) ⟨Nat.le_of_ble_eq_true rfl, Nat.le_of_ble_eq_true rfl⟩ ⟨Nat.le_of_ble_eq_true rfl, Nat.le_of_ble_eq_true rfl⟩ ⟨rfl, rfl⟩ (fun r1 m4 hm => ?_)
  obtain ⟨rfl, b, rfl, hbits⟩ := hm
  have hD4 : 0 < D * 1073741824 * 1073741824 * 4 := by omega
  obtain ⟨hb1', hlo, hhi⟩ : 1 ≤ b ∧ 2 ^ (b - 1) ≤ (D * 1073741824 * 1073741824 * 4).natAbs ∧ (D * 1073741824 * 1073741824 * 4).natAbs < 2 ^ b := by rcases hbits with h | h; exact absurd h.1 (by omega); exact h
  have hn0 : n ≠ 0 := fun h => by rw [h, zsum_0] at hv; omega
  obtain ⟨d, rfl⟩ : ∃ d, n = d + 1 := ⟨n - 1, by omega⟩
  have hlt := zsum_lt (b := 1073741824) (by omega) hr.2.2
  have hge := zsum_top (b := 1073741824) (n := d) (by omega) (fun i hi => (hr.2.2 i hi).1) (ht (by omega))
  rw [zB30] at hlt hge
  have hbd : 30 * d < b := by
    rcases Nat.lt_or_ge (30 * d) b with h | h
    · exact h
    · have := Nat.pow_le_pow_right (by omega : 0 < 2) h
      omega
  have hbd2 : b ≤ 30 * (d + 1) := by
    rcases Nat.lt_or_ge (30 * (d + 1)) b with h | h
    · have := Nat.pow_le_pow_right (by omega : 0 < 2) (by omega : 30 * (d + 1) ≤ b - 1)
      omega
    · exact h
  have hd648 : d + 1 ≤ 648 := zlen (k := 648) hr.2.2 ht (by rw [← hv]; exact d3.lt (by omega))
  obtain ⟨fr, hfr⟩ : ∃ fr, 30 * (d + 1) = b + fr := Nat.exists_eq_add_of_le hbd2
  have p1 : ((2 ^ fr : Nat) : Int) ≤ 1073741824 := by have := Nat.pow_le_pow_right (by omega : 0 < 2) (by omega : fr ≤ 30); omega
  have p0 := zP2 fr
  have d4 := d3.mul (zle_2 fr)
  have l4 := bL.mul (zle_2 fr)
  have h4 := bH.mul (zle_2 fr)
  refine z_isub X dX2_scale_43 ?_
  refine z_istore_n X dX2_scale_44 (fun y => [_, some (vi y)]) (by decide) (fun _ => rfl) (fun x1 hx1 => ?_)
  subst hx1
  refine z_aload_n X dX2_scale_45 rfl ?_
  refine z_getR X dX2_scale_46 f_X2_23 rfl (by first | assumption | exact zbigA.o (by assumption)) (by assumption) ?_
  refine z_iconst X dX2_scale_49 ?_
  refine z_iload_n X dX2_scale_50 rfl ?_
  refine z_ishl X dX2_scale_51 (fr) (((2 ^ fr : Nat) : Int)) (by omega) (by omega) rfl ?_
  refine z_callVv X (As := [_]) dX2_scale_52 m_X0_times i_X0_times l_X2_83 (c_X0_times (zg E) hb3 hD (f := 1 * ((2 ^ fr : Nat) : Int)) (by omega) (by rw [Int.one_mul]; exact d4.lt (by omega))) (by first | assumption | exact zbigA.o (by assumption)) rfl rfl rfl (Nat.le_of_ble_eq_true rfl) ⟨Nat.le_of_ble_eq_true rfl, Nat.le_of_ble_eq_true rfl⟩ ⟨Nat.le_of_ble_eq_true rfl, Nat.le_of_ble_eq_true rfl⟩ ⟨rfl, rfl⟩ (fun m5 hm => ?_)
  obtain ⟨hD, hf⟩ := hm
  have hF := hF.k hf (by omega)
  have hL := hL.k hf (by omega)
  have hH := hH.k hf (by omega)
  refine z_aload_n X dX2_scale_55 rfl ?_
  refine z_getR X dX2_scale_56 f_X2_14 rfl (by first | assumption | exact zbigA.o (by assumption)) (by assumption) ?_
  refine z_iconst X dX2_scale_59 ?_
  refine z_iload_n X dX2_scale_60 rfl ?_
  refine z_ishl X dX2_scale_61 (fr) (((2 ^ fr : Nat) : Int)) (by omega) (by omega) rfl ?_
  refine z_callVv X (As := [_]) dX2_scale_62 m_X0_times i_X0_times l_X2_83 (c_X0_times (zg E) hb1 hL (f := 1 * ((2 ^ fr : Nat) : Int)) (by omega) (by rw [Int.one_mul]; exact l4.lt (by omega))) (by first | assumption | exact zbigA.o (by assumption)) rfl rfl rfl (Nat.le_of_ble_eq_true rfl) ⟨Nat.le_of_ble_eq_true rfl, Nat.le_of_ble_eq_true rfl⟩ ⟨Nat.le_of_ble_eq_true rfl, Nat.le_of_ble_eq_true rfl⟩ ⟨rfl, rfl⟩ (fun m6 hm => ?_)
  obtain ⟨hL, hf⟩ := hm
  have hF := hF.k hf (by omega)
  have hD := hD.k hf (by omega)
  have hH := hH.k hf (by omega)
  refine z_aload_n X dX2_scale_65 rfl ?_
  refine z_getR X dX2_scale_66 f_X2_20 rfl (by first | assumption | exact zbigA.o (by assumption)) (by assumption) ?_
  refine z_iconst X dX2_scale_69 ?_
  refine z_iload_n X dX2_scale_70 rfl ?_
  refine z_ishl X dX2_scale_71 (fr) (((2 ^ fr : Nat) : Int)) (by omega) (by omega) rfl ?_
  refine z_callVv X (As := [_]) dX2_scale_72 m_X0_times i_X0_times l_X2_83 (c_X0_times (zg E) hb2 hH (f := 1 * ((2 ^ fr : Nat) : Int)) (by omega) (by rw [Int.one_mul]; exact h4.lt (by omega))) (by first | assumption | exact zbigA.o (by assumption)) rfl rfl rfl (Nat.le_of_ble_eq_true rfl) ⟨Nat.le_of_ble_eq_true rfl, Nat.le_of_ble_eq_true rfl⟩ ⟨Nat.le_of_ble_eq_true rfl, Nat.le_of_ble_eq_true rfl⟩ ⟨rfl, rfl⟩ (fun m7 hm => ?_)
  obtain ⟨hH, hf⟩ := hm
  have hF := hF.k hf (by omega)
  have hD := hD.k hf (by omega)
  have hL := hL.k hf (by omega)
  refine z_return (st := []) X rfl hQ dX2_scale_75 ⟨rfl, rfl, ?_⟩
  rw [Int.one_mul] at hD hL hH
  have eD : D * 1073741824 * 1073741824 * 4 * ((2 ^ fr : Nat) : Int) = D * (4611686018427387904 * ((2 ^ fr : Nat) : Int)) := by grind
  rw [eD] at hD
  refine ⟨((2 ^ fr : Nat) : Int), d + 1, p0, hL, hH, hD, by omega, ?_, ?_, hF⟩
  · rw [← eD, zB30, hfr, Nat.pow_add, Int.natCast_mul]
    exact Int.mul_lt_mul_of_pos_right (by omega) p0
  · rw [← eD, zB30, hfr, Nat.pow_add, Int.natCast_mul, ← Int.mul_assoc]
    refine Int.mul_le_mul_of_nonneg_right ?_ (by omega)
    have e2 : 2 ^ b = 2 * 2 ^ (b - 1) := by rw [← Nat.pow_succ']; congr 1; omega
    omega

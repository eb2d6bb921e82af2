/-! ConstantMill: the calls for a number -/
def zref (σ : zSt) (d w o : Int) : Int :=
  if ¬ zin d 0 7 then -1 else if ¬ zin w 0 3 ∨ o ≠ 1 then -2
  else match sD σ d.toNat with
    | none => -3
    | some _ => 0
theorem zref_num {σ : zSt} {d w o : Int} {fits : Prop} [Decidable fits] {f : Int → Int} (ho : o = 1 ↔ fits) : (zref σ d w o ≠ 0 ∧ sp_num σ d w fits f = zref σ d w o) ∨ (zref σ d w o = 0 ∧ zin d 0 7 ∧ zin w 0 3 ∧ fits ∧ ∃ y, sD σ d.toNat = some y ∧ sp_num σ d w fits f = f (znum y.2.2.2 w)) := by
  by_cases h1 : zin d 0 7
  · have e1 : zref σ d w o = if ¬ zin w 0 3 ∨ o ≠ 1 then -2 else match sD σ d.toNat with
      | none => -3
      | some _ => 0 := by unfold zref; rw [if_neg (not_not_intro h1)]
    have e2 : sp_num σ d w fits f = if ¬ zin w 0 3 ∨ ¬ fits then -2 else match sD σ d.toNat with
      | none => -3
      | some x => f (znum x.2.2.2 w) := by unfold sp_num; rw [if_neg (not_not_intro h1)]; rfl
    rw [e1, e2]
    by_cases h2 : zin w 0 3 ∧ fits
    · have h3 : ¬ (¬ zin w 0 3 ∨ o ≠ 1) := fun h => h.elim (fun h => h h2.1) (fun h => h (ho.mpr h2.2))
      have h4 : ¬ (¬ zin w 0 3 ∨ ¬ fits) := fun h => h.elim (fun h => h h2.1) (fun h => h h2.2)
      rw [if_neg h3, if_neg h4]
      rcases hx : sD σ d.toNat with _ | y
      · exact Or.inl ⟨by simp only []; omega, rfl⟩
      · exact Or.inr ⟨rfl, h1, h2.1, h2.2, y, rfl, rfl⟩
    · have h3 : ¬ zin w 0 3 ∨ o ≠ 1 := by
        by_cases h4 : zin w 0 3
        · exact Or.inr (fun h => h2 ⟨h4, ho.mp h⟩)
        · exact Or.inl h4
      have h4 : ¬ zin w 0 3 ∨ ¬ fits := h3.elim Or.inl (fun h => Or.inr (fun g => h (ho.mpr g)))
      rw [if_pos h3, if_pos h4]
      exact Or.inl ⟨by omega, rfl⟩
  · have e1 : zref σ d w o = -1 := by unfold zref; rw [if_pos h1]
    have e2 : sp_num σ d w fits f = -1 := by unfold sp_num; rw [if_pos h1]
    rw [e1, e2]
    exact Or.inl ⟨by omega, rfl⟩
theorem znum_bi {A : zA} {m : zM} {d : Nat} {z : zq4} {w : Int} (hA : zspanA A d) (h : zspn m d z) (hw : zin w 0 3) : ∃ N, zbigA A (d + 1 + 2 * w.toNat) N ∧ zbi m (d + 1 + 2 * w.toNat) N (znum z w) := by
  obtain ⟨hA1, hA2, hb1, hb2, hb3, hb4⟩ := hA
  obtain ⟨h1, h2, h3, h4⟩ := h
  rcases (show w = 0 ∨ w = 1 ∨ w = 2 ∨ w = 3 by omega) with rfl | rfl | rfl | rfl
  · exact ⟨85, hb1, h1⟩
  · exact ⟨85, hb2, h2⟩
  · exact ⟨85, hb3, h3⟩
  · exact ⟨170, hb4, h4⟩
theorem c_X7_refusalOfNumber (G : zG) {A : zA} {m : zM} {b : Nat} {σ : zSt} {d w o : Int} (hA : zmilA A b) (hm : zCR b m σ) (hd : zi32 d) (hw : zi32 w) (ho : o = 0 ∨ o = 1) : zMet G k_X7_refusalOfNumber [vr b, vi d, vi w, vi o] A m (zpi A (fun r m' => m = m' ∧ r = zref σ d w o)) := by
  obtain ⟨⟨hB, r0, r1, r2, r3, r4, r5, r6, r7, r8⟩, ⟨a1, a2, a3⟩, ⟨gG, gE, gP, gF, gT, gU⟩, hS, hD, hC⟩ := id hA
  unfold zi32 at hw
  refine zMet.of RX7 rfl (by decide +kernel) (Nat.le_of_ble_eq_true rfl) [some (vr b), some (vi d), some (vi w), some (vi o), none] rfl (fun E hG X hQ hNm => ?_)
  subst hG
  refine z_aload_n X dX7_refusalOfNumber_0 rfl ?_
  refine z_iload_n X dX7_refusalOfNumber_1 rfl ?_
  refine z_callVr X (As := [_]) dX7_refusalOfNumber_2 m_X7_drawerAt i_X7_drawerAt l_X7_98 (c_X7_drawerAt (zg E) hA hd) (by first | assumption | exact zbigA.o (by assumption)) rfl rfl rfl (Nat.le_of_ble_eq_true rfl) ⟨Nat.le_of_ble_eq_true rfl, Nat.le_of_ble_eq_true rfl⟩ ⟨Nat.le_of_ble_eq_true rfl, Nat.le_of_ble_eq_true rfl⟩ ⟨rfl, rfl⟩ (fun x m1 hm1 => ?_)
  rcases x with _ | x
  · obtain ⟨rfl, hx⟩ := hm1
    refine z_astoreN X dX7_refusalOfNumber_5 [_, _, _, _, _] (by decide) rfl ?_
    refine z_aloadN X dX7_refusalOfNumber_7 rfl ?_
    refine z_ifnonnullN X dX7_refusalOfNumber_9 ?_
    refine z_iconst X dX7_refusalOfNumber_12 ?_
    refine z_ireturn (st := []) X rfl hQ dX7_refusalOfNumber_13 ⟨rfl, _, rfl, ?_⟩
    have h := hx.no
    refine ⟨rfl, ?_⟩
    unfold zref
    rw [if_pos (by omega)]
  · obtain ⟨rfl, hx⟩ := hm1
    refine z_astore X dX7_refusalOfNumber_5 [_, _, _, _, _] (by decide) rfl ?_
    refine z_aload X dX7_refusalOfNumber_7 rfl ?_
    refine z_ifnonnull X dX7_refusalOfNumber_9 14 (by decide) ?_
    obtain ⟨k, hk, rfl, rfl⟩ := hx.yes
    have hd1 := (hD k hk).2
    have hd2 := hd1.1
    obtain ⟨k5, hkr⟩ := hm.2.1 k hk
    have k01 := hkr.b4
    refine z_aload X dX7_refusalOfNumber_14 rfl ?_
    refine z_iload_n X dX7_refusalOfNumber_16 rfl ?_
    refine z_callVr X (As := [_]) dX7_refusalOfNumber_17 m_X5_number i_X5_number l_X7_237 (c_X5_number (zg E) hd1 hw) (by first | assumption | exact zbigA.o (by assumption)) rfl rfl rfl (Nat.le_of_ble_eq_true rfl) ⟨Nat.le_of_ble_eq_true rfl, Nat.le_of_ble_eq_true rfl⟩ ⟨Nat.le_of_ble_eq_true rfl, Nat.le_of_ble_eq_true rfl⟩ ⟨rfl, rfl⟩ (fun y m1 hm2 => ?_)
    rcases y with _ | y
    · obtain ⟨rfl, hy⟩ := hm2
      refine z_ifnullN X dX7_refusalOfNumber_20 27 (by decide) ?_
      refine z_bipush X dX7_refusalOfNumber_27 (by decide) ?_
      refine z_ireturn (st := []) X rfl hQ dX7_refusalOfNumber_29 ⟨rfl, _, rfl, ?_⟩
      have h : ¬ (0 ≤ w ∧ w < 4) := fun h => by rw [if_pos h] at hy; cases hy
      refine ⟨rfl, ?_⟩
      unfold zref
      rw [if_neg (by omega), if_pos (by omega)]
    · obtain ⟨rfl, hy⟩ := hm2
      have h : 0 ≤ w ∧ w < 4 := by
        by_cases h : 0 ≤ w ∧ w < 4
        · exact h
        · rw [if_neg h] at hy; cases hy
      refine z_ifnull X dX7_refusalOfNumber_20 ?_
      refine z_iload_n X dX7_refusalOfNumber_23 rfl ?_
      refine z_if_ne X dX7_refusalOfNumber_24 30 (by decide) (by omega) (fun h24 => ?_) (fun h24 => ?_)
      · refine z_aload X dX7_refusalOfNumber_30 rfl ?_
        refine z_getI X dX7_refusalOfNumber_32 f_X7_114 rfl (by first | assumption | exact zbigA.o (by assumption)) ?_
        refine z_if_eq X dX7_refusalOfNumber_35 42 (by decide) (by omega) (fun h35 => ?_) (fun h35 => ?_)
        · refine z_bipush X dX7_refusalOfNumber_42 (by decide) ?_
          refine z_ireturn (st := []) X rfl hQ dX7_refusalOfNumber_44 ⟨rfl, _, rfl, ?_⟩
          refine ⟨rfl, ?_⟩
          unfold zref
          rw [if_neg (by omega), if_neg (by omega), Int.toNat_natCast]
          rcases hkr.h4 with ⟨h, e⟩ | ⟨h, y, e, _⟩ <;> rw [e] <;> first | rfl | omega
        · refine z_iconst X dX7_refusalOfNumber_38 ?_
          refine z_goto X dX7_refusalOfNumber_39 44 (by decide) ?_
          refine z_ireturn (st := []) X rfl hQ dX7_refusalOfNumber_44 ⟨rfl, _, rfl, ?_⟩
          refine ⟨rfl, ?_⟩
          unfold zref
          rw [if_neg (by omega), if_neg (by omega), Int.toNat_natCast]
          rcases hkr.h4 with ⟨h, e⟩ | ⟨h, y, e, _⟩ <;> rw [e] <;> first | rfl | omega
      · refine z_bipush X dX7_refusalOfNumber_27 (by decide) ?_
        refine z_ireturn (st := []) X rfl hQ dX7_refusalOfNumber_29 ⟨rfl, _, rfl, ?_⟩
        refine ⟨rfl, ?_⟩
        unfold zref
        rw [if_neg (by omega), if_pos (by omega)]
theorem c_X7_numberAt (G : zG) {A : zA} {m : zM} {b : Nat} {d w : Int} (hA : zmilA A b) (hd : zi32 d) (hw : zi32 w) : zMet G k_X7_numberAt [vr b, vi d, vi w] A m (zpr A (fun x m' => m = m' ∧ ((x = none ∧ ¬ (zin d 0 7 ∧ zin w 0 3)) ∨ (zin d 0 7 ∧ zin w 0 3 ∧ x = some (b + 61 + 9 * d.toNat + 1 + 2 * w.toNat))))) := by
  obtain ⟨⟨hB, r0, r1, r2, r3, r4, r5, r6, r7, r8⟩, ⟨a1, a2, a3⟩, ⟨gG, gE, gP, gF, gT, gU⟩, hS, hD, hC⟩ := id hA
  unfold zi32 at hw
  refine zMet.of RX7 rfl (by decide +kernel) (Nat.le_of_ble_eq_true rfl) [some (vr b), some (vi d), some (vi w), none] rfl (fun E hG X hQ hNm => ?_)
  subst hG
  refine z_aload_n X dX7_numberAt_0 rfl ?_
  refine z_iload_n X dX7_numberAt_1 rfl ?_
  refine z_callVr X (As := [_]) dX7_numberAt_2 m_X7_drawerAt i_X7_drawerAt l_X7_98 (c_X7_drawerAt (zg E) hA hd) (by first | assumption | exact zbigA.o (by assumption)) rfl rfl rfl (Nat.le_of_ble_eq_true rfl) ⟨Nat.le_of_ble_eq_true rfl, Nat.le_of_ble_eq_true rfl⟩ ⟨Nat.le_of_ble_eq_true rfl, Nat.le_of_ble_eq_true rfl⟩ ⟨rfl, rfl⟩ (fun x m1 hm1 => ?_)
  rcases x with _ | x
  · obtain ⟨rfl, hx⟩ := hm1
    refine z_astore_nN X dX7_numberAt_5 [_, _, _, _] (by decide) rfl ?_
    refine z_aload_nN X dX7_numberAt_6 rfl ?_
    refine z_ifnonnullN X dX7_numberAt_7 ?_
    refine z_null X dX7_numberAt_10 ?_
    refine z_goto X dX7_numberAt_11 19 (by decide) ?_
    refine z_areturn (st := []) X rfl hQ dX7_numberAt_19 (Or.inl rfl) ⟨rfl, none, rfl, ?_⟩
    have h := hx.no
    exact ⟨rfl, Or.inl ⟨rfl, fun g => h g.1⟩⟩
  · obtain ⟨rfl, hx⟩ := hm1
    refine z_astore_n X dX7_numberAt_5 [_, _, _, _] (by decide) rfl ?_
    refine z_aload_n X dX7_numberAt_6 rfl ?_
    refine z_ifnonnull X dX7_numberAt_7 14 (by decide) ?_
    obtain ⟨k, hk, rfl, rfl⟩ := hx.yes
    have hd1 := (hD k hk).2
    have hd2 := hd1.1
    refine z_aload_n X dX7_numberAt_14 rfl ?_
    refine z_iload_n X dX7_numberAt_15 rfl ?_
    refine z_callVr X (As := [_]) dX7_numberAt_16 m_X5_number i_X5_number l_X7_237 (c_X5_number (zg E) hd1 hw) (by first | assumption | exact zbigA.o (by assumption)) rfl rfl rfl (Nat.le_of_ble_eq_true rfl) ⟨Nat.le_of_ble_eq_true rfl, Nat.le_of_ble_eq_true rfl⟩ ⟨Nat.le_of_ble_eq_true rfl, Nat.le_of_ble_eq_true rfl⟩ ⟨rfl, rfl⟩ (fun y m1 hm2 => ?_)
    rcases y with _ | y
    · obtain ⟨rfl, hy⟩ := hm2
      refine z_areturn (st := []) X rfl hQ dX7_numberAt_19 (Or.inl rfl) ⟨rfl, none, rfl, ?_⟩
      exact ⟨rfl, Or.inl ⟨rfl, fun g => by rw [if_pos (by omega)] at hy; cases hy⟩⟩
    · obtain ⟨rfl, hy⟩ := hm2
      refine z_areturn (st := []) X rfl hQ dX7_numberAt_19 (Or.inr ⟨_, rfl⟩) ⟨rfl, some _, rfl, ?_⟩
      refine ⟨rfl, Or.inr ?_⟩
      by_cases h : 0 ≤ w ∧ w < 4
      · rw [if_pos h] at hy
        exact ⟨by omega, by omega, by rw [hy, Int.toNat_natCast]⟩
      · rw [if_neg h] at hy; cases hy
theorem zref_bd (σ : zSt) (d w o : Int) : -3 ≤ zref σ d w o ∧ zref σ d w o ≤ 0 := by
  unfold zref
  split
  · omega
  · split
    · omega
    · split <;> omega
theorem zref_no {σ : zSt} {d w o : Int} {fits : Prop} [Decidable fits] {f : Int → Int} (ho : o = 1 ↔ fits) (h : zref σ d w o ≠ 0) : sp_num σ d w fits f = zref σ d w o := by
  rcases zref_num (σ := σ) (d := d) (w := w) (f := f) ho with ⟨_, e⟩ | ⟨e, _⟩
  · exact e
  · exact absurd e h
theorem zref_yes {A : zA} {m : zM} {b : Nat} {σ : zSt} {d w o : Int} {fits : Prop} [Decidable fits] {f : Int → Int} (hA : zmilA A b) (hm : zCR b m σ) (ho : o = 1 ↔ fits) (h : zref σ d w o = 0) : zin d 0 7 ∧ zin w 0 3 ∧ fits ∧ ∃ N v, zbigA A (b + 61 + 9 * d.toNat + 1 + 2 * w.toNat) N ∧ zbi m (b + 61 + 9 * d.toNat + 1 + 2 * w.toNat) N v ∧ sp_num σ d w fits f = f v := by
  rcases zref_num (σ := σ) (d := d) (w := w) (f := f) ho with ⟨e, _⟩ | ⟨_, h1, h2, h3, y, h4, h5⟩
  · exact absurd h e
  · rcases (hm.2.1 d.toNat (by omega)).2.h4 with ⟨_, e⟩ | ⟨_, y', e, _, _, _, hz⟩
    · rw [e] at h4; cases h4
    · rw [e] at h4
      obtain rfl := Option.some.inj h4
      obtain ⟨N, g1, g2⟩ := znum_bi (hA.2.2.2.2.1 d.toNat (by omega)).2 hz h2
      exact ⟨h1, h2, h3, N, _, g1, g2, h5⟩
theorem c_X7_bits (G : zG) {A : zA} {m : zM} {b : Nat} {σ : zSt} {d w : Int} (hA : zmilA A b) (hm : zCR b m σ) (hd : zi32 d) (hw : zi32 w) : zMet G k_X7_bits [vr b, vi d, vi w] A m (zpi A (fun r m' => m = m' ∧ r = sp_bits σ d w)) := by
  obtain ⟨⟨hB, r0, r1, r2, r3, r4, r5, r6, r7, r8⟩, ⟨a1, a2, a3⟩, ⟨gG, gE, gP, gF, gT, gU⟩, hS, hD, hC⟩ := id hA
  have no := fun (o : Int) (ho : o = 1 ↔ True) => zref_no (σ := σ) (d := d) (w := w) (o := o) (fits := True) (f := fun v => (zbitsf v : Int)) ho
  have yes := fun (o : Int) (ho : o = 1 ↔ True) => zref_yes (σ := σ) (d := d) (w := w) (o := o) (fits := True) (f := fun v => (zbitsf v : Int)) hA hm ho
  have bd := zref_bd σ d w
  refine zMet.of RX7 rfl (by decide +kernel) (Nat.le_of_ble_eq_true rfl) [some (vr b), some (vi d), some (vi w), none, none] rfl (fun E hG X hQ hNm => ?_)
  subst hG
  refine z_aload_n X dX7_bits_0 rfl ?_
  refine z_iload_n X dX7_bits_1 rfl ?_
  refine z_iload_n X dX7_bits_2 rfl ?_
  refine z_iconst X dX7_bits_3 ?_
  refine z_callVi X (As := [_, _, _]) dX7_bits_4 m_X7_refusalOfNumber i_X7_refusalOfNumber l_X7_131 (c_X7_refusalOfNumber (zg E) hA hm hd hw (by omega)) (by first | assumption | exact zbigA.o (by assumption)) rfl rfl rfl (Nat.le_of_ble_eq_true rfl) ⟨Nat.le_of_ble_eq_true rfl, Nat.le_of_ble_eq_true rfl⟩ ⟨Nat.le_of_ble_eq_true rfl, Nat.le_of_ble_eq_true rfl⟩ ⟨rfl, rfl⟩ (fun r m1 hm1 => ?_)
  obtain ⟨rfl, hr⟩ := hm1
  have hb := bd (1)
  rw [← hr] at hb
  refine z_istore_n X dX7_bits_7 (fun y => [_, _, _, some (vi y), _]) (by decide) (fun _ => rfl) (fun q hq => ?_)
  obtain rfl : q = r := by omega
  refine z_aload_n X dX7_bits_8 rfl ?_
  refine z_iload_n X dX7_bits_9 rfl ?_
  refine z_iload_n X dX7_bits_10 rfl ?_
  refine z_callVr X (As := [_, _]) dX7_bits_11 m_X7_numberAt i_X7_numberAt l_X7_135 (c_X7_numberAt (zg E) hA hd hw) (by first | assumption | exact zbigA.o (by assumption)) rfl rfl rfl (Nat.le_of_ble_eq_true rfl) ⟨Nat.le_of_ble_eq_true rfl, Nat.le_of_ble_eq_true rfl⟩ ⟨Nat.le_of_ble_eq_true rfl, Nat.le_of_ble_eq_true rfl⟩ ⟨rfl, rfl⟩ (fun x m1 hm2 => ?_)
  rcases x with _ | x
  · obtain ⟨rfl, hx⟩ := hm2
    refine z_astoreN X dX7_bits_14 [_, _, _, _, _] (by decide) rfl ?_
    refine z_iload_n X dX7_bits_16 rfl ?_
    refine z_if_ne X dX7_bits_17 25 (by decide) (by omega) (fun h17 => ?_) (fun h17 => ?_)
    · refine z_iload_n X dX7_bits_25 rfl ?_
      refine z_goto X dX7_bits_26 34 (by decide) ?_
      refine z_ireturn (st := []) X rfl hQ dX7_bits_34 ⟨rfl, _, rfl, ?_⟩
      exact ⟨rfl, (hr.trans (no (1) (by simp) (by omega)).symm)⟩
    · refine z_aloadN X dX7_bits_20 rfl ?_
      refine z_ifnonnullN X dX7_bits_22 ?_
      refine z_iload_n X dX7_bits_25 rfl ?_
      refine z_goto X dX7_bits_26 34 (by decide) ?_
      refine z_ireturn (st := []) X rfl hQ dX7_bits_34 ⟨rfl, _, rfl, ?_⟩
      exact absurd hx (fun h => (h.elim (fun h => h.2 ⟨(yes (1) (by simp) (by omega)).1, (yes (1) (by simp) (by omega)).2.1⟩) (fun h => by have := h.2.2; cases this)))
  · obtain ⟨rfl, hx⟩ := hm2
    refine z_astore X dX7_bits_14 [_, _, _, _, _] (by decide) rfl ?_
    refine z_iload_n X dX7_bits_16 rfl ?_
    refine z_if_ne X dX7_bits_17 25 (by decide) (by omega) (fun h17 => ?_) (fun h17 => ?_)
    · refine z_iload_n X dX7_bits_25 rfl ?_
      refine z_goto X dX7_bits_26 34 (by decide) ?_
      refine z_ireturn (st := []) X rfl hQ dX7_bits_34 ⟨rfl, _, rfl, ?_⟩
      exact ⟨rfl, (hr.trans (no (1) (by simp) (by omega)).symm)⟩
    · refine z_aload X dX7_bits_20 rfl ?_
      refine z_ifnonnull X dX7_bits_22 29 (by decide) ?_
      obtain ⟨_, _, _, N, v, gb, gv, hv⟩ := yes 1 (by simp) (by omega)
      obtain rfl : x = b + 61 + 9 * d.toNat + 1 + 2 * w.toNat := by
        rcases hx with h | h
        · cases h.1
        · exact Option.some.inj h.2.2
      refine z_aload X dX7_bits_29 rfl ?_
      refine z_callVi X (As := []) dX7_bits_31 m_X0_bitLength i_X0_bitLength l_X7_139 (c_X0_bitLength (zg E) gb gv) (by first | assumption | exact zbigA.o (by assumption)) rfl rfl rfl (Nat.le_of_ble_eq_true rfl) ⟨Nat.le_of_ble_eq_true rfl, Nat.le_of_ble_eq_true rfl⟩ ⟨Nat.le_of_ble_eq_true rfl, Nat.le_of_ble_eq_true rfl⟩ ⟨rfl, rfl⟩ (fun r9 m9 hm9 => ?_)
      refine z_ireturn (st := []) X rfl hQ dX7_bits_34 ⟨rfl, _, rfl, ?_⟩
      obtain ⟨rfl, n, rfl, hn⟩ := hm9
      refine ⟨rfl, ?_⟩
      rw [zisbits_unique hn (zbitsf_is v)]
      exact hv.symm
theorem c_X7_sign (G : zG) {A : zA} {m : zM} {b : Nat} {σ : zSt} {d w : Int} (hA : zmilA A b) (hm : zCR b m σ) (hd : zi32 d) (hw : zi32 w) : zMet G k_X7_sign [vr b, vi d, vi w] A m (zpi A (fun r m' => m = m' ∧ r = sp_sign σ d w)) := by
  obtain ⟨⟨hB, r0, r1, r2, r3, r4, r5, r6, r7, r8⟩, ⟨a1, a2, a3⟩, ⟨gG, gE, gP, gF, gT, gU⟩, hS, hD, hC⟩ := id hA
  have no := fun (o : Int) (ho : o = 1 ↔ True) => zref_no (σ := σ) (d := d) (w := w) (o := o) (fits := True) (f := fun v => if v = 0 then 0 else if v < 0 then 2 else 1) ho
  have yes := fun (o : Int) (ho : o = 1 ↔ True) => zref_yes (σ := σ) (d := d) (w := w) (o := o) (fits := True) (f := fun v => if v = 0 then 0 else if v < 0 then 2 else 1) hA hm ho
  refine zMet.of RX7 rfl (by decide +kernel) (Nat.le_of_ble_eq_true rfl) [some (vr b), some (vi d), some (vi w), none, none] rfl (fun E hG X hQ hNm => ?_)
  subst hG
  refine z_aload_n X dX7_sign_0 rfl ?_
  refine z_iload_n X dX7_sign_1 rfl ?_
  refine z_iload_n X dX7_sign_2 rfl ?_
  have hoo : (1 : Int) = 1 ↔ True := by simp
  refine z_iconst X dX7_sign_3 ?_
  refine z_callVi X (As := [_, _, _]) dX7_sign_4 m_X7_refusalOfNumber i_X7_refusalOfNumber l_X7_131 (c_X7_refusalOfNumber (zg E) hA hm hd hw (by omega)) (by first | assumption | exact zbigA.o (by assumption)) rfl rfl rfl (Nat.le_of_ble_eq_true rfl) ⟨Nat.le_of_ble_eq_true rfl, Nat.le_of_ble_eq_true rfl⟩ ⟨Nat.le_of_ble_eq_true rfl, Nat.le_of_ble_eq_true rfl⟩ ⟨rfl, rfl⟩ (fun r m1 hm1 => ?_)
  obtain ⟨rfl, hr⟩ := hm1
  have hb : -3 ≤ r ∧ r ≤ 0 := by rw [hr]; exact zref_bd σ d w _
  refine z_istore_n X dX7_sign_7 (fun y => [_, _, _, some (vi y), _]) (by decide) (fun _ => rfl) (fun q hq => ?_)
  obtain rfl : q = r := by omega
  refine z_aload_n X dX7_sign_8 rfl ?_
  refine z_iload_n X dX7_sign_9 rfl ?_
  refine z_iload_n X dX7_sign_10 rfl ?_
  refine z_callVr X (As := [_, _]) dX7_sign_11 m_X7_numberAt i_X7_numberAt l_X7_135 (c_X7_numberAt (zg E) hA hd hw) (by first | assumption | exact zbigA.o (by assumption)) rfl rfl rfl (Nat.le_of_ble_eq_true rfl) ⟨Nat.le_of_ble_eq_true rfl, Nat.le_of_ble_eq_true rfl⟩ ⟨Nat.le_of_ble_eq_true rfl, Nat.le_of_ble_eq_true rfl⟩ ⟨rfl, rfl⟩ (fun x m1 hm2 => ?_)
  rcases x with _ | x
  · obtain ⟨rfl, hx⟩ := hm2
    refine z_astoreN X dX7_sign_14 [_, _, _, _, _] (by decide) rfl ?_
    refine z_iload_n X dX7_sign_16 rfl ?_
    refine z_if_ne X dX7_sign_17 25 (by decide) (by omega) (fun h17 => ?_) (fun h17 => ?_)
    · refine z_iload_n X dX7_sign_25 rfl ?_
      refine z_ireturn (st := []) X rfl hQ dX7_sign_26 ⟨rfl, _, rfl, ?_⟩
      first
        | exact ⟨rfl, hr.trans (no _ hoo (by omega)).symm⟩
        | exact ⟨rfl, hv.symm⟩
        | exact absurd hx (fun h => (h.elim (fun h => h.2 ⟨(yes _ hoo (by omega)).1, (yes _ hoo (by omega)).2.1⟩) (fun h => by have := h.2.2; cases this)))
    · refine z_aloadN X dX7_sign_20 rfl ?_
      refine z_ifnonnullN X dX7_sign_22 ?_
      refine z_iload_n X dX7_sign_25 rfl ?_
      refine z_ireturn (st := []) X rfl hQ dX7_sign_26 ⟨rfl, _, rfl, ?_⟩
      first
        | exact ⟨rfl, hr.trans (no _ hoo (by omega)).symm⟩
        | exact ⟨rfl, hv.symm⟩
        | exact absurd hx (fun h => (h.elim (fun h => h.2 ⟨(yes _ hoo (by omega)).1, (yes _ hoo (by omega)).2.1⟩) (fun h => by have := h.2.2; cases this)))
  · obtain ⟨rfl, hx⟩ := hm2
    refine z_astore X dX7_sign_14 [_, _, _, _, _] (by decide) rfl ?_
    refine z_iload_n X dX7_sign_16 rfl ?_
    refine z_if_ne X dX7_sign_17 25 (by decide) (by omega) (fun h17 => ?_) (fun h17 => ?_)
    · refine z_iload_n X dX7_sign_25 rfl ?_
      refine z_ireturn (st := []) X rfl hQ dX7_sign_26 ⟨rfl, _, rfl, ?_⟩
      first
        | exact ⟨rfl, hr.trans (no _ hoo (by omega)).symm⟩
        | exact ⟨rfl, hv.symm⟩
        | exact absurd hx (fun h => (h.elim (fun h => h.2 ⟨(yes _ hoo (by omega)).1, (yes _ hoo (by omega)).2.1⟩) (fun h => by have := h.2.2; cases this)))
    · refine z_aload X dX7_sign_20 rfl ?_
      refine z_ifnonnull X dX7_sign_22 27 (by decide) ?_
      obtain ⟨_, _, hfit, N, v, gb, gv, hv⟩ := yes _ hoo (by omega)
      obtain rfl : x = b + 61 + 9 * d.toNat + 1 + 2 * w.toNat := by
        rcases hx with h | h
        · cases h.1
        · exact Option.some.inj h.2.2
      obtain ⟨n, z1, z2, z3, z4⟩ := gv.sz
      have z5 : n ≤ 100000 := by have := gb.2.2.2; omega
      refine z_aload X dX7_sign_27 rfl ?_
      refine z_getI X dX7_sign_29 f_X7_144 rfl (by first | assumption | exact zbigA.o (by assumption)) ?_
      refine z_if_ne X dX7_sign_32 39 (by decide) (by omega) (fun h32 => ?_) (fun h32 => ?_)
      · refine z_aload X dX7_sign_39 rfl ?_
        refine z_getI X dX7_sign_41 f_X7_147 rfl (by first | assumption | exact zbigA.o (by assumption)) ?_
        refine z_if_eq X dX7_sign_44 51 (by decide) (by omega) (fun h44 => ?_) (fun h44 => ?_)
        · refine z_iconst X dX7_sign_51 ?_
          refine z_ireturn (st := []) X rfl hQ dX7_sign_52 ⟨rfl, _, rfl, ?_⟩
          refine ⟨rfl, Eq.trans ?_ hv.symm⟩
          show _ = if v = 0 then (0 : Int) else if v < 0 then 2 else 1
          split
          · omega
          · split <;> omega
        · refine z_iconst X dX7_sign_47 ?_
          refine z_goto X dX7_sign_48 52 (by decide) ?_
          refine z_ireturn (st := []) X rfl hQ dX7_sign_52 ⟨rfl, _, rfl, ?_⟩
          refine ⟨rfl, Eq.trans ?_ hv.symm⟩
          show _ = if v = 0 then (0 : Int) else if v < 0 then 2 else 1
          split
          · omega
          · split <;> omega
      · refine z_iconst X dX7_sign_35 ?_
        refine z_goto X dX7_sign_36 52 (by decide) ?_
        refine z_ireturn (st := []) X rfl hQ dX7_sign_52 ⟨rfl, _, rfl, ?_⟩
        refine ⟨rfl, Eq.trans ?_ hv.symm⟩
        show _ = if v = 0 then (0 : Int) else if v < 0 then 2 else 1
        split
        · omega
        · split <;> omega
theorem c_X7_rest (G : zG) {A : zA} {m : zM} {b : Nat} {σ : zSt} {d w k : Int} (hA : zmilA A b) (hm : zCR b m σ) (hd : zi32 d) (hw : zi32 w) (hk : zi32 k) : zMet G k_X7_rest [vr b, vi d, vi w, vi k] A m (zpi A (fun r m' => m = m' ∧ r = sp_rest σ d w k)) := by
  obtain ⟨⟨hB, r0, r1, r2, r3, r4, r5, r6, r7, r8⟩, ⟨a1, a2, a3⟩, ⟨gG, gE, gP, gF, gT, gU⟩, hS, hD, hC⟩ := id hA
  have no := fun (o : Int) (ho : o = 1 ↔ zin k 2 1000000) => zref_no (σ := σ) (d := d) (w := w) (o := o) (fits := zin k 2 1000000) (f := fun v => v % k) ho
  have yes := fun (o : Int) (ho : o = 1 ↔ zin k 2 1000000) => zref_yes (σ := σ) (d := d) (w := w) (o := o) (fits := zin k 2 1000000) (f := fun v => v % k) hA hm ho
  refine zMet.of RX7 rfl (by decide +kernel) (Nat.le_of_ble_eq_true rfl) [some (vr b), some (vi d), some (vi w), some (vi k), none, none] rfl (fun E hG X hQ hNm => ?_)
  subst hG
  unfold zi32 at hk
  refine z_aload_n X dX7_rest_0 rfl ?_
  refine z_iload_n X dX7_rest_1 rfl ?_
  refine z_iload_n X dX7_rest_2 rfl ?_
  refine z_iload_n X dX7_rest_3 rfl ?_
  refine z_iconst X dX7_rest_4 ?_
  refine z_icmp_lt X dX7_rest_5 18 (by decide) (by omega) (by omega) (fun h5 => ?_) (fun h5 => ?_)
  · have hoo : (0 : Int) = 1 ↔ zin k 2 1000000 := by omega
    refine z_iconst X dX7_rest_18 ?_
    refine z_callVi X (As := [_, _, _]) dX7_rest_19 m_X7_refusalOfNumber i_X7_refusalOfNumber l_X7_131 (c_X7_refusalOfNumber (zg E) hA hm hd hw (by omega)) (by first | assumption | exact zbigA.o (by assumption)) rfl rfl rfl (Nat.le_of_ble_eq_true rfl) ⟨Nat.le_of_ble_eq_true rfl, Nat.le_of_ble_eq_true rfl⟩ ⟨Nat.le_of_ble_eq_true rfl, Nat.le_of_ble_eq_true rfl⟩ ⟨rfl, rfl⟩ (fun r m1 hm1 => ?_)
    obtain ⟨rfl, hr⟩ := hm1
    have hb : -3 ≤ r ∧ r ≤ 0 := by rw [hr]; exact zref_bd σ d w _
    refine z_istore X dX7_rest_22 (fun y => [_, _, _, _, some (vi y), _]) (by decide) (fun _ => rfl) (fun q hq => ?_)
    obtain rfl : q = r := by omega
    refine z_aload_n X dX7_rest_24 rfl ?_
    refine z_iload_n X dX7_rest_25 rfl ?_
    refine z_iload_n X dX7_rest_26 rfl ?_
    refine z_callVr X (As := [_, _]) dX7_rest_27 m_X7_numberAt i_X7_numberAt l_X7_135 (c_X7_numberAt (zg E) hA hd hw) (by first | assumption | exact zbigA.o (by assumption)) rfl rfl rfl (Nat.le_of_ble_eq_true rfl) ⟨Nat.le_of_ble_eq_true rfl, Nat.le_of_ble_eq_true rfl⟩ ⟨Nat.le_of_ble_eq_true rfl, Nat.le_of_ble_eq_true rfl⟩ ⟨rfl, rfl⟩ (fun x m1 hm2 => ?_)
    rcases x with _ | x
    · obtain ⟨rfl, hx⟩ := hm2
      refine z_astoreN X dX7_rest_30 [_, _, _, _, _, _] (by decide) rfl ?_
      refine z_iload X dX7_rest_32 rfl ?_
      refine z_if_ne X dX7_rest_34 42 (by decide) (by omega) (fun h34 => ?_) (fun h34 => ?_)
      · refine z_iload X dX7_rest_42 rfl ?_
        refine z_goto X dX7_rest_44 53 (by decide) ?_
        refine z_ireturn (st := []) X rfl hQ dX7_rest_53 ⟨rfl, _, rfl, ?_⟩
        first
          | exact ⟨rfl, hr.trans (no _ hoo (by omega)).symm⟩
          | exact ⟨rfl, hv.symm⟩
          | exact absurd hx (fun h => (h.elim (fun h => h.2 ⟨(yes _ hoo (by omega)).1, (yes _ hoo (by omega)).2.1⟩) (fun h => by have := h.2.2; cases this)))
      · refine z_aloadN X dX7_rest_37 rfl ?_
        refine z_ifnonnullN X dX7_rest_39 ?_
        refine z_iload X dX7_rest_42 rfl ?_
        refine z_goto X dX7_rest_44 53 (by decide) ?_
        refine z_ireturn (st := []) X rfl hQ dX7_rest_53 ⟨rfl, _, rfl, ?_⟩
        first
          | exact ⟨rfl, hr.trans (no _ hoo (by omega)).symm⟩
          | exact ⟨rfl, hv.symm⟩
          | exact absurd hx (fun h => (h.elim (fun h => h.2 ⟨(yes _ hoo (by omega)).1, (yes _ hoo (by omega)).2.1⟩) (fun h => by have := h.2.2; cases this)))
    · obtain ⟨rfl, hx⟩ := hm2
      refine z_astore X dX7_rest_30 [_, _, _, _, _, _] (by decide) rfl ?_
      refine z_iload X dX7_rest_32 rfl ?_
      refine z_if_ne X dX7_rest_34 42 (by decide) (by omega) (fun h34 => ?_) (fun h34 => ?_)
      · refine z_iload X dX7_rest_42 rfl ?_
        refine z_goto X dX7_rest_44 53 (by decide) ?_
        refine z_ireturn (st := []) X rfl hQ dX7_rest_53 ⟨rfl, _, rfl, ?_⟩
        first
          | exact ⟨rfl, hr.trans (no _ hoo (by omega)).symm⟩
          | exact ⟨rfl, hv.symm⟩
          | exact absurd hx (fun h => (h.elim (fun h => h.2 ⟨(yes _ hoo (by omega)).1, (yes _ hoo (by omega)).2.1⟩) (fun h => by have := h.2.2; cases this)))
      · refine z_aload X dX7_rest_37 rfl ?_
        refine z_ifnonnull X dX7_rest_39 47 (by decide) ?_
        obtain ⟨_, _, hfit, N, v, gb, gv, hv⟩ := yes _ hoo (by omega)
        obtain rfl : x = b + 61 + 9 * d.toNat + 1 + 2 * w.toNat := by
          rcases hx with h | h
          · cases h.1
          · exact Option.some.inj h.2.2
        refine z_aload X dX7_rest_47 rfl ?_
        refine z_iload_n X dX7_rest_49 rfl ?_
        refine z_callVi X (As := [_]) dX7_rest_50 m_X0_modulo i_X0_modulo l_X7_150 (c_X0_modulo (zg E) gb gv hfit) (by first | assumption | exact zbigA.o (by assumption)) rfl rfl rfl (Nat.le_of_ble_eq_true rfl) ⟨Nat.le_of_ble_eq_true rfl, Nat.le_of_ble_eq_true rfl⟩ ⟨Nat.le_of_ble_eq_true rfl, Nat.le_of_ble_eq_true rfl⟩ ⟨rfl, rfl⟩ (fun r9 m9 hm9 => ?_)
        obtain ⟨rfl, rfl⟩ := hm9
        refine z_ireturn (st := []) X rfl hQ dX7_rest_53 ⟨rfl, _, rfl, ?_⟩
        first
          | exact ⟨rfl, hr.trans (no _ hoo (by omega)).symm⟩
          | exact ⟨rfl, hv.symm⟩
          | exact absurd hx (fun h => (h.elim (fun h => h.2 ⟨(yes _ hoo (by omega)).1, (yes _ hoo (by omega)).2.1⟩) (fun h => by have := h.2.2; cases this)))
  · refine z_iload_n X dX7_rest_8 rfl ?_
    refine z_ldc X dX7_rest_9 q_X7_80 (1000000) (by decide) ?_
    refine z_icmp_gt X dX7_rest_11 18 (by decide) (by omega) (by omega) (fun h11 => ?_) (fun h11 => ?_)
    · have hoo : (0 : Int) = 1 ↔ zin k 2 1000000 := by omega
      refine z_iconst X dX7_rest_18 ?_
      refine z_callVi X (As := [_, _, _]) dX7_rest_19 m_X7_refusalOfNumber i_X7_refusalOfNumber l_X7_131 (c_X7_refusalOfNumber (zg E) hA hm hd hw (by omega)) (by first | assumption | exact zbigA.o (by assumption)) rfl rfl rfl (Nat.le_of_ble_eq_true rfl) ⟨Nat.le_of_ble_eq_true rfl, Nat.le_of_ble_eq_true rfl⟩ ⟨Nat.le_of_ble_eq_true rfl, Nat.le_of_ble_eq_true rfl⟩ ⟨rfl, rfl⟩ (fun r m1 hm1 => ?_)
      obtain ⟨rfl, hr⟩ := hm1
      have hb : -3 ≤ r ∧ r ≤ 0 := by rw [hr]; exact zref_bd σ d w _
      refine z_istore X dX7_rest_22 (fun y => [_, _, _, _, some (vi y), _]) (by decide) (fun _ => rfl) (fun q hq => ?_)
      obtain rfl : q = r := by omega
      refine z_aload_n X dX7_rest_24 rfl ?_
      refine z_iload_n X dX7_rest_25 rfl ?_
      refine z_iload_n X dX7_rest_26 rfl ?_
      refine z_callVr X (As := [_, _]) dX7_rest_27 m_X7_numberAt i_X7_numberAt l_X7_135 (c_X7_numberAt (zg E) hA hd hw) (by first | assumption | exact zbigA.o (by assumption)) rfl rfl rfl (Nat.le_of_ble_eq_true rfl) ⟨Nat.le_of_ble_eq_true rfl, Nat.le_of_ble_eq_true rfl⟩ ⟨Nat.le_of_ble_eq_true rfl, Nat.le_of_ble_eq_true rfl⟩ ⟨rfl, rfl⟩ (fun x m1 hm2 => ?_)
      rcases x with _ | x
      · obtain ⟨rfl, hx⟩ := hm2
        refine z_astoreN X dX7_rest_30 [_, _, _, _, _, _] (by decide) rfl ?_
        refine z_iload X dX7_rest_32 rfl ?_
        refine z_if_ne X dX7_rest_34 42 (by decide) (by omega) (fun h34 => ?_) (fun h34 => ?_)
        · refine z_iload X dX7_rest_42 rfl ?_
          refine z_goto X dX7_rest_44 53 (by decide) ?_
          refine z_ireturn (st := []) X rfl hQ dX7_rest_53 ⟨rfl, _, rfl, ?_⟩
          first
            | exact ⟨rfl, hr.trans (no _ hoo (by omega)).symm⟩
            | exact ⟨rfl, hv.symm⟩
            | exact absurd hx (fun h => (h.elim (fun h => h.2 ⟨(yes _ hoo (by omega)).1, (yes _ hoo (by omega)).2.1⟩) (fun h => by have := h.2.2; cases this)))
        · refine z_aloadN X dX7_rest_37 rfl ?_
          refine z_ifnonnullN X dX7_rest_39 ?_
          refine z_iload X dX7_rest_42 rfl ?_
          refine z_goto X dX7_rest_44 53 (by decide) ?_
          refine z_ireturn (st := []) X rfl hQ dX7_rest_53 ⟨rfl, _, rfl, ?_⟩
          first
            | exact ⟨rfl, hr.trans (no _ hoo (by omega)).symm⟩
            | exact ⟨rfl, hv.symm⟩
            | exact absurd hx (fun h => (h.elim (fun h => h.2 ⟨(yes _ hoo (by omega)).1, (yes _ hoo (by omega)).2.1⟩) (fun h => by have := h.2.2; cases this)))
      · obtain ⟨rfl, hx⟩ := hm2
        refine z_astore X dX7_rest_30 [_, _, _, _, _, _] (by decide) rfl ?_
        refine z_iload X dX7_rest_32 rfl ?_
        refine z_if_ne X dX7_rest_34 42 (by decide) (by omega) (fun h34 => ?_) (fun h34 => ?_)
        · refine z_iload X dX7_rest_42 rfl ?_
          refine z_goto X dX7_rest_44 53 (by decide) ?_
          refine z_ireturn (st := []) X rfl hQ dX7_rest_53 ⟨rfl, _, rfl, ?_⟩
          first
            | exact ⟨rfl, hr.trans (no _ hoo (by omega)).symm⟩
            | exact ⟨rfl, hv.symm⟩
            | exact absurd hx (fun h => (h.elim (fun h => h.2 ⟨(yes _ hoo (by omega)).1, (yes _ hoo (by omega)).2.1⟩) (fun h => by have := h.2.2; cases this)))
        · refine z_aload X dX7_rest_37 rfl ?_
          refine z_ifnonnull X dX7_rest_39 47 (by decide) ?_
          obtain ⟨_, _, hfit, N, v, gb, gv, hv⟩ := yes _ hoo (by omega)
          obtain rfl : x = b + 61 + 9 * d.toNat + 1 + 2 * w.toNat := by
            rcases hx with h | h
            · cases h.1
            · exact Option.some.inj h.2.2
          refine z_aload X dX7_rest_47 rfl ?_
          refine z_iload_n X dX7_rest_49 rfl ?_
          refine z_callVi X (As := [_]) dX7_rest_50 m_X0_modulo i_X0_modulo l_X7_150 (c_X0_modulo (zg E) gb gv hfit) (by first | assumption | exact zbigA.o (by assumption)) rfl rfl rfl (Nat.le_of_ble_eq_true rfl) ⟨Nat.le_of_ble_eq_true rfl, Nat.le_of_ble_eq_true rfl⟩ ⟨Nat.le_of_ble_eq_true rfl, Nat.le_of_ble_eq_true rfl⟩ ⟨rfl, rfl⟩ (fun r9 m9 hm9 => ?_)
          obtain ⟨rfl, rfl⟩ := hm9
          refine z_ireturn (st := []) X rfl hQ dX7_rest_53 ⟨rfl, _, rfl, ?_⟩
          first
            | exact ⟨rfl, hr.trans (no _ hoo (by omega)).symm⟩
            | exact ⟨rfl, hv.symm⟩
            | exact absurd hx (fun h => (h.elim (fun h => h.2 ⟨(yes _ hoo (by omega)).1, (yes _ hoo (by omega)).2.1⟩) (fun h => by have := h.2.2; cases this)))
    · have hoo : (1 : Int) = 1 ↔ zin k 2 1000000 := by omega
      refine z_iconst X dX7_rest_14 ?_
      refine z_goto X dX7_rest_15 19 (by decide) ?_
      refine z_callVi X (As := [_, _, _]) dX7_rest_19 m_X7_refusalOfNumber i_X7_refusalOfNumber l_X7_131 (c_X7_refusalOfNumber (zg E) hA hm hd hw (by omega)) (by first | assumption | exact zbigA.o (by assumption)) rfl rfl rfl (Nat.le_of_ble_eq_true rfl) ⟨Nat.le_of_ble_eq_true rfl, Nat.le_of_ble_eq_true rfl⟩ ⟨Nat.le_of_ble_eq_true rfl, Nat.le_of_ble_eq_true rfl⟩ ⟨rfl, rfl⟩ (fun r m1 hm1 => ?_)
      obtain ⟨rfl, hr⟩ := hm1
      have hb : -3 ≤ r ∧ r ≤ 0 := by rw [hr]; exact zref_bd σ d w _
      refine z_istore X dX7_rest_22 (fun y => [_, _, _, _, some (vi y), _]) (by decide) (fun _ => rfl) (fun q hq => ?_)
      obtain rfl : q = r := by omega
      refine z_aload_n X dX7_rest_24 rfl ?_
      refine z_iload_n X dX7_rest_25 rfl ?_
      refine z_iload_n X dX7_rest_26 rfl ?_
      refine z_callVr X (As := [_, _]) dX7_rest_27 m_X7_numberAt i_X7_numberAt l_X7_135 (c_X7_numberAt (zg E) hA hd hw) (by first | assumption | exact zbigA.o (by assumption)) rfl rfl rfl (Nat.le_of_ble_eq_true rfl) ⟨Nat.le_of_ble_eq_true rfl, Nat.le_of_ble_eq_true rfl⟩ ⟨Nat.le_of_ble_eq_true rfl, Nat.le_of_ble_eq_true rfl⟩ ⟨rfl, rfl⟩ (fun x m1 hm2 => ?_)
      rcases x with _ | x
      · obtain ⟨rfl, hx⟩ := hm2
        refine z_astoreN X dX7_rest_30 [_, _, _, _, _, _] (by decide) rfl ?_
        refine z_iload X dX7_rest_32 rfl ?_
        refine z_if_ne X dX7_rest_34 42 (by decide) (by omega) (fun h34 => ?_) (fun h34 => ?_)
        · refine z_iload X dX7_rest_42 rfl ?_
          refine z_goto X dX7_rest_44 53 (by decide) ?_
          refine z_ireturn (st := []) X rfl hQ dX7_rest_53 ⟨rfl, _, rfl, ?_⟩
          first
            | exact ⟨rfl, hr.trans (no _ hoo (by omega)).symm⟩
            | exact ⟨rfl, hv.symm⟩
            | exact absurd hx (fun h => (h.elim (fun h => h.2 ⟨(yes _ hoo (by omega)).1, (yes _ hoo (by omega)).2.1⟩) (fun h => by have := h.2.2; cases this)))
        · refine z_aloadN X dX7_rest_37 rfl ?_
          refine z_ifnonnullN X dX7_rest_39 ?_
          refine z_iload X dX7_rest_42 rfl ?_
          refine z_goto X dX7_rest_44 53 (by decide) ?_
          refine z_ireturn (st := []) X rfl hQ dX7_rest_53 ⟨rfl, _, rfl, ?_⟩
          first
            | exact ⟨rfl, hr.trans (no _ hoo (by omega)).symm⟩
            | exact ⟨rfl, hv.symm⟩
            | exact absurd hx (fun h => (h.elim (fun h => h.2 ⟨(yes _ hoo (by omega)).1, (yes _ hoo (by omega)).2.1⟩) (fun h => by have := h.2.2; cases this)))
      · obtain ⟨rfl, hx⟩ := hm2
        refine z_astore X dX7_rest_30 [_, _, _, _, _, _] (by decide) rfl ?_
        refine z_iload X dX7_rest_32 rfl ?_
        refine z_if_ne X dX7_rest_34 42 (by decide) (by omega) (fun h34 => ?_) (fun h34 => ?_)
        · refine z_iload X dX7_rest_42 rfl ?_
          refine z_goto X dX7_rest_44 53 (by decide) ?_
          refine z_ireturn (st := []) X rfl hQ dX7_rest_53 ⟨rfl, _, rfl, ?_⟩
          first
            | exact ⟨rfl, hr.trans (no _ hoo (by omega)).symm⟩
            | exact ⟨rfl, hv.symm⟩
            | exact absurd hx (fun h => (h.elim (fun h => h.2 ⟨(yes _ hoo (by omega)).1, (yes _ hoo (by omega)).2.1⟩) (fun h => by have := h.2.2; cases this)))
        · refine z_aload X dX7_rest_37 rfl ?_
          refine z_ifnonnull X dX7_rest_39 47 (by decide) ?_
          obtain ⟨_, _, hfit, N, v, gb, gv, hv⟩ := yes _ hoo (by omega)
          obtain rfl : x = b + 61 + 9 * d.toNat + 1 + 2 * w.toNat := by
            rcases hx with h | h
            · cases h.1
            · exact Option.some.inj h.2.2
          refine z_aload X dX7_rest_47 rfl ?_
          refine z_iload_n X dX7_rest_49 rfl ?_
          refine z_callVi X (As := [_]) dX7_rest_50 m_X0_modulo i_X0_modulo l_X7_150 (c_X0_modulo (zg E) gb gv hfit) (by first | assumption | exact zbigA.o (by assumption)) rfl rfl rfl (Nat.le_of_ble_eq_true rfl) ⟨Nat.le_of_ble_eq_true rfl, Nat.le_of_ble_eq_true rfl⟩ ⟨Nat.le_of_ble_eq_true rfl, Nat.le_of_ble_eq_true rfl⟩ ⟨rfl, rfl⟩ (fun r9 m9 hm9 => ?_)
          obtain ⟨rfl, rfl⟩ := hm9
          refine z_ireturn (st := []) X rfl hQ dX7_rest_53 ⟨rfl, _, rfl, ?_⟩
          first
            | exact ⟨rfl, hr.trans (no _ hoo (by omega)).symm⟩
            | exact ⟨rfl, hv.symm⟩
            | exact absurd hx (fun h => (h.elim (fun h => h.2 ⟨(yes _ hoo (by omega)).1, (yes _ hoo (by omega)).2.1⟩) (fun h => by have := h.2.2; cases this)))
theorem c_X7_word (G : zG) {A : zA} {m : zM} {b : Nat} {σ : zSt} {d w k : Int} (hA : zmilA A b) (hm : zCR b m σ) (hd : zi32 d) (hw : zi32 w) (hk : zi32 k) : zMet G k_X7_word [vr b, vi d, vi w, vi k] A m (zpi A (fun r m' => m = m' ∧ r = sp_word σ d w k)) := by
  obtain ⟨⟨hB, r0, r1, r2, r3, r4, r5, r6, r7, r8⟩, ⟨a1, a2, a3⟩, ⟨gG, gE, gP, gF, gT, gU⟩, hS, hD, hC⟩ := id hA
  have no := fun (o : Int) (ho : o = 1 ↔ 0 ≤ k) => zref_no (σ := σ) (d := d) (w := w) (o := o) (fits := 0 ≤ k) (f := fun v => (v.natAbs : Int) / ((2 ^ (16 * k.toNat) : Nat) : Int) % 65536) ho
  have yes := fun (o : Int) (ho : o = 1 ↔ 0 ≤ k) => zref_yes (σ := σ) (d := d) (w := w) (o := o) (fits := 0 ≤ k) (f := fun v => (v.natAbs : Int) / ((2 ^ (16 * k.toNat) : Nat) : Int) % 65536) hA hm ho
  refine zMet.of RX7 rfl (by decide +kernel) (Nat.le_of_ble_eq_true rfl) [some (vr b), some (vi d), some (vi w), some (vi k), none, none] rfl (fun E hG X hQ hNm => ?_)
  subst hG
  unfold zi32 at hk
  refine z_aload_n X dX7_word_0 rfl ?_
  refine z_iload_n X dX7_word_1 rfl ?_
  refine z_iload_n X dX7_word_2 rfl ?_
  refine z_iload_n X dX7_word_3 rfl ?_
  refine z_if_lt X dX7_word_4 11 (by decide) (by omega) (fun h4 => ?_) (fun h4 => ?_)
  · have hoo : (0 : Int) = 1 ↔ 0 ≤ k := by omega
    refine z_iconst X dX7_word_11 ?_
    refine z_callVi X (As := [_, _, _]) dX7_word_12 m_X7_refusalOfNumber i_X7_refusalOfNumber l_X7_131 (c_X7_refusalOfNumber (zg E) hA hm hd hw (by omega)) (by first | assumption | exact zbigA.o (by assumption)) rfl rfl rfl (Nat.le_of_ble_eq_true rfl) ⟨Nat.le_of_ble_eq_true rfl, Nat.le_of_ble_eq_true rfl⟩ ⟨Nat.le_of_ble_eq_true rfl, Nat.le_of_ble_eq_true rfl⟩ ⟨rfl, rfl⟩ (fun r m1 hm1 => ?_)
    obtain ⟨rfl, hr⟩ := hm1
    have hb : -3 ≤ r ∧ r ≤ 0 := by rw [hr]; exact zref_bd σ d w _
    refine z_istore X dX7_word_15 (fun y => [_, _, _, _, some (vi y), _]) (by decide) (fun _ => rfl) (fun q hq => ?_)
    obtain rfl : q = r := by omega
    refine z_aload_n X dX7_word_17 rfl ?_
    refine z_iload_n X dX7_word_18 rfl ?_
    refine z_iload_n X dX7_word_19 rfl ?_
    refine z_callVr X (As := [_, _]) dX7_word_20 m_X7_numberAt i_X7_numberAt l_X7_135 (c_X7_numberAt (zg E) hA hd hw) (by first | assumption | exact zbigA.o (by assumption)) rfl rfl rfl (Nat.le_of_ble_eq_true rfl) ⟨Nat.le_of_ble_eq_true rfl, Nat.le_of_ble_eq_true rfl⟩ ⟨Nat.le_of_ble_eq_true rfl, Nat.le_of_ble_eq_true rfl⟩ ⟨rfl, rfl⟩ (fun x m1 hm2 => ?_)
    rcases x with _ | x
    · obtain ⟨rfl, hx⟩ := hm2
      refine z_astoreN X dX7_word_23 [_, _, _, _, _, _] (by decide) rfl ?_
      refine z_iload X dX7_word_25 rfl ?_
      refine z_if_ne X dX7_word_27 35 (by decide) (by omega) (fun h27 => ?_) (fun h27 => ?_)
      · refine z_iload X dX7_word_35 rfl ?_
        refine z_goto X dX7_word_37 46 (by decide) ?_
        refine z_ireturn (st := []) X rfl hQ dX7_word_46 ⟨rfl, _, rfl, ?_⟩
        first
          | exact ⟨rfl, hr.trans (no _ hoo (by omega)).symm⟩
          | exact ⟨rfl, hv.symm⟩
          | exact absurd hx (fun h => (h.elim (fun h => h.2 ⟨(yes _ hoo (by omega)).1, (yes _ hoo (by omega)).2.1⟩) (fun h => by have := h.2.2; cases this)))
      · refine z_aloadN X dX7_word_30 rfl ?_
        refine z_ifnonnullN X dX7_word_32 ?_
        refine z_iload X dX7_word_35 rfl ?_
        refine z_goto X dX7_word_37 46 (by decide) ?_
        refine z_ireturn (st := []) X rfl hQ dX7_word_46 ⟨rfl, _, rfl, ?_⟩
        first
          | exact ⟨rfl, hr.trans (no _ hoo (by omega)).symm⟩
          | exact ⟨rfl, hv.symm⟩
          | exact absurd hx (fun h => (h.elim (fun h => h.2 ⟨(yes _ hoo (by omega)).1, (yes _ hoo (by omega)).2.1⟩) (fun h => by have := h.2.2; cases this)))
    · obtain ⟨rfl, hx⟩ := hm2
      refine z_astore X dX7_word_23 [_, _, _, _, _, _] (by decide) rfl ?_
      refine z_iload X dX7_word_25 rfl ?_
      refine z_if_ne X dX7_word_27 35 (by decide) (by omega) (fun h27 => ?_) (fun h27 => ?_)
      · refine z_iload X dX7_word_35 rfl ?_
        refine z_goto X dX7_word_37 46 (by decide) ?_
        refine z_ireturn (st := []) X rfl hQ dX7_word_46 ⟨rfl, _, rfl, ?_⟩
        first
          | exact ⟨rfl, hr.trans (no _ hoo (by omega)).symm⟩
          | exact ⟨rfl, hv.symm⟩
          | exact absurd hx (fun h => (h.elim (fun h => h.2 ⟨(yes _ hoo (by omega)).1, (yes _ hoo (by omega)).2.1⟩) (fun h => by have := h.2.2; cases this)))
      · refine z_aload X dX7_word_30 rfl ?_
        refine z_ifnonnull X dX7_word_32 40 (by decide) ?_
        obtain ⟨_, _, hfit, N, v, gb, gv, hv⟩ := yes _ hoo (by omega)
        obtain rfl : x = b + 61 + 9 * d.toNat + 1 + 2 * w.toNat := by
          rcases hx with h | h
          · cases h.1
          · exact Option.some.inj h.2.2
        refine z_aload X dX7_word_40 rfl ?_
        refine z_iload_n X dX7_word_42 rfl ?_
        refine z_callVi X (As := [_]) dX7_word_43 m_X0_sixteenBits i_X0_sixteenBits l_X7_153 (c_X0_sixteenBits (zg E) gb gv (by omega)) (by first | assumption | exact zbigA.o (by assumption)) rfl rfl rfl (Nat.le_of_ble_eq_true rfl) ⟨Nat.le_of_ble_eq_true rfl, Nat.le_of_ble_eq_true rfl⟩ ⟨Nat.le_of_ble_eq_true rfl, Nat.le_of_ble_eq_true rfl⟩ ⟨rfl, rfl⟩ (fun r9 m9 hm9 => ?_)
        obtain ⟨rfl, rfl⟩ := hm9
        refine z_ireturn (st := []) X rfl hQ dX7_word_46 ⟨rfl, _, rfl, ?_⟩
        first
          | exact ⟨rfl, hr.trans (no _ hoo (by omega)).symm⟩
          | exact ⟨rfl, hv.symm⟩
          | exact absurd hx (fun h => (h.elim (fun h => h.2 ⟨(yes _ hoo (by omega)).1, (yes _ hoo (by omega)).2.1⟩) (fun h => by have := h.2.2; cases this)))
  · have hoo : (1 : Int) = 1 ↔ 0 ≤ k := by omega
    refine z_iconst X dX7_word_7 ?_
    refine z_goto X dX7_word_8 12 (by decide) ?_
    refine z_callVi X (As := [_, _, _]) dX7_word_12 m_X7_refusalOfNumber i_X7_refusalOfNumber l_X7_131 (c_X7_refusalOfNumber (zg E) hA hm hd hw (by omega)) (by first | assumption | exact zbigA.o (by assumption)) rfl rfl rfl (Nat.le_of_ble_eq_true rfl) ⟨Nat.le_of_ble_eq_true rfl, Nat.le_of_ble_eq_true rfl⟩ ⟨Nat.le_of_ble_eq_true rfl, Nat.le_of_ble_eq_true rfl⟩ ⟨rfl, rfl⟩ (fun r m1 hm1 => ?_)
    obtain ⟨rfl, hr⟩ := hm1
    have hb : -3 ≤ r ∧ r ≤ 0 := by rw [hr]; exact zref_bd σ d w _
    refine z_istore X dX7_word_15 (fun y => [_, _, _, _, some (vi y), _]) (by decide) (fun _ => rfl) (fun q hq => ?_)
    obtain rfl : q = r := by omega
    refine z_aload_n X dX7_word_17 rfl ?_
    refine z_iload_n X dX7_word_18 rfl ?_
    refine z_iload_n X dX7_word_19 rfl ?_
    refine z_callVr X (As := [_, _]) dX7_word_20 m_X7_numberAt i_X7_numberAt l_X7_135 (c_X7_numberAt (zg E) hA hd hw) (by first | assumption | exact zbigA.o (by assumption)) rfl rfl rfl (Nat.le_of_ble_eq_true rfl) ⟨Nat.le_of_ble_eq_true rfl, Nat.le_of_ble_eq_true rfl⟩ ⟨Nat.le_of_ble_eq_true rfl, Nat.le_of_ble_eq_true rfl⟩ ⟨rfl, rfl⟩ (fun x m1 hm2 => ?_)
    rcases x with _ | x
    · obtain ⟨rfl, hx⟩ := hm2
      refine z_astoreN X dX7_word_23 [_, _, _, _, _, _] (by decide) rfl ?_
      refine z_iload X dX7_word_25 rfl ?_
      refine z_if_ne X dX7_word_27 35 (by decide) (by omega) (fun h27 => ?_) (fun h27 => ?_)
      · refine z_iload X dX7_word_35 rfl ?_
        refine z_goto X dX7_word_37 46 (by decide) ?_
        refine z_ireturn (st := []) X rfl hQ dX7_word_46 ⟨rfl, _, rfl, ?_⟩
        first
          | exact ⟨rfl, hr.trans (no _ hoo (by omega)).symm⟩
          | exact ⟨rfl, hv.symm⟩
          | exact absurd hx (fun h => (h.elim (fun h => h.2 ⟨(yes _ hoo (by omega)).1, (yes _ hoo (by omega)).2.1⟩) (fun h => by have := h.2.2; cases this)))
      · refine z_aloadN X dX7_word_30 rfl ?_
        refine z_ifnonnullN X dX7_word_32 ?_
        refine z_iload X dX7_word_35 rfl ?_
        refine z_goto X dX7_word_37 46 (by decide) ?_
        refine z_ireturn (st := []) X rfl hQ dX7_word_46 ⟨rfl, _, rfl, ?_⟩
        first
          | exact ⟨rfl, hr.trans (no _ hoo (by omega)).symm⟩
          | exact ⟨rfl, hv.symm⟩
          | exact absurd hx (fun h => (h.elim (fun h => h.2 ⟨(yes _ hoo (by omega)).1, (yes _ hoo (by omega)).2.1⟩) (fun h => by have := h.2.2; cases this)))
    · obtain ⟨rfl, hx⟩ := hm2
      refine z_astore X dX7_word_23 [_, _, _, _, _, _] (by decide) rfl ?_
      refine z_iload X dX7_word_25 rfl ?_
      refine z_if_ne X dX7_word_27 35 (by decide) (by omega) (fun h27 => ?_) (fun h27 => ?_)
      · refine z_iload X dX7_word_35 rfl ?_
        refine z_goto X dX7_word_37 46 (by decide) ?_
        refine z_ireturn (st := []) X rfl hQ dX7_word_46 ⟨rfl, _, rfl, ?_⟩
        first
          | exact ⟨rfl, hr.trans (no _ hoo (by omega)).symm⟩
          | exact ⟨rfl, hv.symm⟩
          | exact absurd hx (fun h => (h.elim (fun h => h.2 ⟨(yes _ hoo (by omega)).1, (yes _ hoo (by omega)).2.1⟩) (fun h => by have := h.2.2; cases this)))
      · refine z_aload X dX7_word_30 rfl ?_
        refine z_ifnonnull X dX7_word_32 40 (by decide) ?_
        obtain ⟨_, _, hfit, N, v, gb, gv, hv⟩ := yes _ hoo (by omega)
        obtain rfl : x = b + 61 + 9 * d.toNat + 1 + 2 * w.toNat := by
          rcases hx with h | h
          · cases h.1
          · exact Option.some.inj h.2.2
        refine z_aload X dX7_word_40 rfl ?_
        refine z_iload_n X dX7_word_42 rfl ?_
        refine z_callVi X (As := [_]) dX7_word_43 m_X0_sixteenBits i_X0_sixteenBits l_X7_153 (c_X0_sixteenBits (zg E) gb gv (by omega)) (by first | assumption | exact zbigA.o (by assumption)) rfl rfl rfl (Nat.le_of_ble_eq_true rfl) ⟨Nat.le_of_ble_eq_true rfl, Nat.le_of_ble_eq_true rfl⟩ ⟨Nat.le_of_ble_eq_true rfl, Nat.le_of_ble_eq_true rfl⟩ ⟨rfl, rfl⟩ (fun r9 m9 hm9 => ?_)
        obtain ⟨rfl, rfl⟩ := hm9
        refine z_ireturn (st := []) X rfl hQ dX7_word_46 ⟨rfl, _, rfl, ?_⟩
        first
          | exact ⟨rfl, hr.trans (no _ hoo (by omega)).symm⟩
          | exact ⟨rfl, hv.symm⟩
          | exact absurd hx (fun h => (h.elim (fun h => h.2 ⟨(yes _ hoo (by omega)).1, (yes _ hoo (by omega)).2.1⟩) (fun h => by have := h.2.2; cases this)))
theorem c_X7_same (G : zG) {A : zA} {m : zM} {b : Nat} {σ : zSt} {d e : Int} (hA : zmilA A b) (hm : zCR b m σ) (hd : zi32 d) (he : zi32 e) : zMet G k_X7_same [vr b, vi d, vi e] A m (zpi A (fun r m' => m = m' ∧ r = sp_same σ d e)) := by
  obtain ⟨⟨hB, r0, r1, r2, r3, r4, r5, r6, r7, r8⟩, ⟨a1, a2, a3⟩, ⟨gG, gE, gP, gF, gT, gU⟩, hS, hD, hC⟩ := id hA
  have out : (¬ zin d 0 7 ∨ ¬ zin e 0 7) → m = m ∧ -1 = sp_same σ d e := fun h => by
    unfold sp_same
    rw [if_pos h]
    exact ⟨rfl, rfl⟩
  refine zMet.of RX7 rfl (by decide +kernel) (Nat.le_of_ble_eq_true rfl) [some (vr b), some (vi d), some (vi e), none, none] rfl (fun E hG X hQ hNm => ?_)
  subst hG
  refine z_aload_n X dX7_same_0 rfl ?_
  refine z_iload_n X dX7_same_1 rfl ?_
  refine z_callVr X (As := [_]) dX7_same_2 m_X7_drawerAt i_X7_drawerAt l_X7_98 (c_X7_drawerAt (zg E) hA hd) (by first | assumption | exact zbigA.o (by assumption)) rfl rfl rfl (Nat.le_of_ble_eq_true rfl) ⟨Nat.le_of_ble_eq_true rfl, Nat.le_of_ble_eq_true rfl⟩ ⟨Nat.le_of_ble_eq_true rfl, Nat.le_of_ble_eq_true rfl⟩ ⟨rfl, rfl⟩ (fun x m1 hm1 => ?_)
  rcases x with _ | x
  · obtain ⟨rfl, hx⟩ := hm1
    refine z_astore_nN X dX7_same_5 [_, _, _, _, _] (by decide) rfl ?_
    refine z_aload_n X dX7_same_6 rfl ?_
    refine z_iload_n X dX7_same_7 rfl ?_
    refine z_callVr X (As := [_]) dX7_same_8 m_X7_drawerAt i_X7_drawerAt l_X7_98 (c_X7_drawerAt (zg E) hA he) (by first | assumption | exact zbigA.o (by assumption)) rfl rfl rfl (Nat.le_of_ble_eq_true rfl) ⟨Nat.le_of_ble_eq_true rfl, Nat.le_of_ble_eq_true rfl⟩ ⟨Nat.le_of_ble_eq_true rfl, Nat.le_of_ble_eq_true rfl⟩ ⟨rfl, rfl⟩ (fun y m1 hm2 => ?_)
    rcases y with _ | y
    · obtain ⟨rfl, hy⟩ := hm2
      refine z_astoreN X dX7_same_11 [_, _, _, _, _] (by decide) rfl ?_
      refine z_aload_nN X dX7_same_13 rfl ?_
      refine z_ifnullN X dX7_same_14 22 (by decide) ?_
      refine z_iconst X dX7_same_22 ?_
      refine z_ireturn (st := []) X rfl hQ dX7_same_23 ⟨rfl, _, rfl, ?_⟩
      exact out (by first | exact Or.inl hx.no | exact Or.inr hy.no)
    · obtain ⟨rfl, hy⟩ := hm2
      refine z_astore X dX7_same_11 [_, _, _, _, _] (by decide) rfl ?_
      refine z_aload_nN X dX7_same_13 rfl ?_
      refine z_ifnullN X dX7_same_14 22 (by decide) ?_
      refine z_iconst X dX7_same_22 ?_
      refine z_ireturn (st := []) X rfl hQ dX7_same_23 ⟨rfl, _, rfl, ?_⟩
      exact out (by first | exact Or.inl hx.no | exact Or.inr hy.no)
  · obtain ⟨rfl, hx⟩ := hm1
    refine z_astore_n X dX7_same_5 [_, _, _, _, _] (by decide) rfl ?_
    refine z_aload_n X dX7_same_6 rfl ?_
    refine z_iload_n X dX7_same_7 rfl ?_
    refine z_callVr X (As := [_]) dX7_same_8 m_X7_drawerAt i_X7_drawerAt l_X7_98 (c_X7_drawerAt (zg E) hA he) (by first | assumption | exact zbigA.o (by assumption)) rfl rfl rfl (Nat.le_of_ble_eq_true rfl) ⟨Nat.le_of_ble_eq_true rfl, Nat.le_of_ble_eq_true rfl⟩ ⟨Nat.le_of_ble_eq_true rfl, Nat.le_of_ble_eq_true rfl⟩ ⟨rfl, rfl⟩ (fun y m1 hm2 => ?_)
    rcases y with _ | y
    · obtain ⟨rfl, hy⟩ := hm2
      refine z_astoreN X dX7_same_11 [_, _, _, _, _] (by decide) rfl ?_
      refine z_aload_n X dX7_same_13 rfl ?_
      refine z_ifnull X dX7_same_14 ?_
      refine z_aloadN X dX7_same_17 rfl ?_
      refine z_ifnonnullN X dX7_same_19 ?_
      refine z_iconst X dX7_same_22 ?_
      refine z_ireturn (st := []) X rfl hQ dX7_same_23 ⟨rfl, _, rfl, ?_⟩
      exact out (by first | exact Or.inl hx.no | exact Or.inr hy.no)
    · obtain ⟨rfl, hy⟩ := hm2
      refine z_astore X dX7_same_11 [_, _, _, _, _] (by decide) rfl ?_
      refine z_aload_n X dX7_same_13 rfl ?_
      refine z_ifnull X dX7_same_14 ?_
      refine z_aload X dX7_same_17 rfl ?_
      refine z_ifnonnull X dX7_same_19 24 (by decide) ?_
      obtain ⟨k, hk, rfl, rfl⟩ := hx.yes
      obtain ⟨l, hl, rfl, rfl⟩ := hy.yes
      have hd1 := (hD k hk).2
      have hd2 := hd1.1
      have he1 := (hD l hl).2
      have he2 := he1.1
      obtain ⟨k5, hkr⟩ := hm.2.1 k hk
      obtain ⟨l5, hlr⟩ := hm.2.1 l hl
      have k01 := hkr.b4
      have l01 := hlr.b4
      refine z_aload_n X dX7_same_24 rfl ?_
      refine z_getI X dX7_same_25 f_X7_114 rfl (by first | assumption | exact zbigA.o (by assumption)) ?_
      refine z_if_eq X dX7_same_28 39 (by decide) (by omega) (fun h28 => ?_) (fun h28 => ?_)
      · refine z_bipush X dX7_same_39 (by decide) ?_
        refine z_ireturn (st := []) X rfl hQ dX7_same_41 ⟨rfl, _, rfl, ?_⟩
        refine ⟨rfl, ?_⟩
        rcases hkr.h4 with ⟨_, e0⟩ | ⟨h, _⟩
        · unfold sp_same
          rw [if_neg (by omega), Int.toNat_natCast, e0]
        · omega
      · refine z_aload X dX7_same_31 rfl ?_
        refine z_getI X dX7_same_33 f_X7_114 rfl (by first | assumption | exact zbigA.o (by assumption)) ?_
        refine z_if_ne X dX7_same_36 42 (by decide) (by omega) (fun h36 => ?_) (fun h36 => ?_)
        · rcases hkr.h4 with ⟨h0, _⟩ | ⟨k4, x, e0, x5, x6, x7, x8⟩
          · exact absurd h0 h28
          rcases hlr.h4 with ⟨h0, _⟩ | ⟨l4, y, e1, y5, y6, y7, y8⟩
          · exact absurd h0 h36
          have sp : sp_same σ (k : Int) (l : Int) = if x.2.2.2 = y.2.2.2 then 1 else 0 := by
            unfold sp_same
            rw [if_neg (by omega), Int.toNat_natCast, Int.toNat_natCast, e0, e1]
          refine z_aload_n X dX7_same_42 rfl ?_
          refine z_aload X dX7_same_43 rfl ?_
          refine z_callVi X (As := [_]) dX7_same_45 m_X5_hasNumbersOf i_X5_hasNumbersOf l_X7_156 (c_X5_hasNumbersOf (zg E) hd1 he1 x8 y8) (by first | assumption | exact zbigA.o (by assumption)) rfl rfl rfl (Nat.le_of_ble_eq_true rfl) ⟨Nat.le_of_ble_eq_true rfl, Nat.le_of_ble_eq_true rfl⟩ ⟨Nat.le_of_ble_eq_true rfl, Nat.le_of_ble_eq_true rfl⟩ ⟨rfl, rfl⟩ (fun r9 m9 hm9 => ?_)
          obtain ⟨rfl, hr⟩ := hm9
          have hr01 : r9 = 0 ∨ r9 = 1 := by
            rcases hr with h | h
            · exact Or.inr h.1
            · exact Or.inl h.1
          refine z_if_eq X dX7_same_48 55 (by decide) (by omega) (fun h48 => ?_) (fun h48 => ?_)
          · refine z_iconst X dX7_same_55 ?_
            refine z_ireturn (st := []) X rfl hQ dX7_same_56 ⟨rfl, _, rfl, ?_⟩
            refine ⟨rfl, ?_⟩
            rw [sp]
            rcases hr with ⟨h, g⟩ | ⟨h, g⟩
            · rw [if_pos g]; try omega
            · rw [if_neg g]; try omega
          · refine z_iconst X dX7_same_51 ?_
            refine z_goto X dX7_same_52 56 (by decide) ?_
            refine z_ireturn (st := []) X rfl hQ dX7_same_56 ⟨rfl, _, rfl, ?_⟩
            refine ⟨rfl, ?_⟩
            rw [sp]
            rcases hr with ⟨h, g⟩ | ⟨h, g⟩
            · rw [if_pos g]; try omega
            · rw [if_neg g]; try omega
        · refine z_bipush X dX7_same_39 (by decide) ?_
          refine z_ireturn (st := []) X rfl hQ dX7_same_41 ⟨rfl, _, rfl, ?_⟩
          refine ⟨rfl, ?_⟩
          rcases hkr.h4 with ⟨h, _⟩ | ⟨_, x, e0, _⟩
          · omega
          · rcases hlr.h4 with ⟨_, e1⟩ | ⟨h, _⟩
            · unfold sp_same
              rw [if_neg (by omega), Int.toNat_natCast, Int.toNat_natCast, e0, e1]
            · omega

/-! ConstantMill: the calls for a number -/
def zref (σ : zSt) (d w o : Int) : Int :=
  if ¬ zin d 0 7 then -1 else if ¬ zin w 0 3 ∨ o ≠ 1 then -2
  else match sD σ d.toNat with
    | none => -3
    | some _ => 0
theorem zref_num {σ : zSt} {d w o : Int} {fits : Prop} [Decidable fits] {f : Int → Int} (ho : o = 1 ↔ fits) : (zref σ d w o ≠ 0 ∧ sp_num σ d w fits f = zref σ d w o) ∨ (zref σ d w o = 0 ∧ zin d 0 7 ∧ zin w 0 3 ∧ fits ∧ ∃ y, sD σ d.toNat = some y ∧ sp_num σ d w fits f = f (znum y.2.2.2 w)) := by
  by_cases h1 : zin d 0 7
  · have e1 : zref σ d w o = if ¬ zin w 0 3 ∨ o ≠ 1 then -2 else match sD σ d.toNat with
      | none => -3
      | some _ => 0 := by unfold zref; rw [if_neg (not_not_intro h1)]
    have e2 : sp_num σ d w fits f = if ¬ zin w 0 3 ∨ ¬ fits then -2 else match sD σ d.toNat with
      | none => -3
      | some x => f (znum x.2.2.2 w) := by unfold sp_num; rw [if_neg (not_not_intro h1)]; rfl
    rw [e1, e2]
    by_cases h2 : zin w 0 3 ∧ fits
    · have h3 : ¬ (¬ zin w 0 3 ∨ o ≠ 1) := fun h => h.elim (fun h => h h2.1) (fun h => h (ho.mpr h2.2))
      have h4 : ¬ (¬ zin w 0 3 ∨ ¬ fits) := fun h => h.elim (fun h => h h2.1) (fun h => h h2.2)
      rw [if_neg h3, if_neg h4]
      rcases hx : sD σ d.toNat with _ | y
      · exact Or.inl ⟨by simp only []; omega, rfl⟩
      · exact Or.inr ⟨rfl, h1, h2.1, h2.2, y, rfl, rfl⟩
    · have h3 : ¬ zin w 0 3 ∨ o ≠ 1 := by
        by_cases h4 : zin w 0 3
        · exact Or.inr (fun h => h2 ⟨h4, ho.mp h⟩)
        · exact Or.inl h4
      have h4 : ¬ zin w 0 3 ∨ ¬ fits := h3.elim Or.inl (fun h => Or.inr (fun g => h (ho.mpr g)))
      rw [if_pos h3, if_pos h4]
      exact Or.inl ⟨by omega, rfl⟩
  · have e1 : zref σ d w o = -1 := by unfold zref; rw [if_pos h1]
    have e2 : sp_num σ d w fits f = -1 := by unfold sp_num; rw [if_pos h1]
    rw [e1, e2]
    exact Or.inl ⟨by omega, rfl⟩
theorem znum_bi {A : zA} {m : zM} {d : Nat} {z : zq4} {w : Int} (hA : zspanA A d) (h : zspn m d z) (hw : zin w 0 3) : ∃ N, zbigA A (d + 1 + 2 * w.toNat) N ∧ zbi m (d + 1 + 2 * w.toNat) N (znum z w) := by
  obtain ⟨hA1, hA2, hb1, hb2, hb3, hb4⟩ := hA
  obtain ⟨h1, h2, h3, h4⟩ := h
  rcases (show w = 0 ∨ w = 1 ∨ w = 2 ∨ w = 3 by omega) with rfl | rfl | rfl | rfl
  · exact ⟨85, hb1, h1⟩
  · exact ⟨85, hb2, h2⟩
  · exact ⟨85, hb3, h3⟩
  · exact ⟨170, hb4, h4⟩
theorem c_X7_refusalOfNumber (G : zG) {A : zA} {m : zM} {b : Nat} {σ : zSt} {d w o : Int} (hA : zmilA A b) (hm : zCR b m σ) (hd : zi32 d) (hw : zi32 w) (ho : o = 0 ∨ o = 1) : zMet G k_X7_refusalOfNumber [vr b, vi d, vi w, vi o] A m (zpi A (fun r m' => m = m' ∧ r = zref σ d w o)) := by
  obtain ⟨⟨hB, r0, r1, r2, r3, r4, r5, r6, r7, r8⟩, ⟨a1, a2, a3⟩, ⟨gG, gE, gP, gF, gT, gU⟩, hS, hD, hC⟩ := id hA
  unfold zi32 at hw
  refine zMet.of RX7 rfl (by decide +kernel) (Nat.le_of_ble_eq_true rfl) [some (vr b), some (vi d), some (vi w), some (vi o), none] rfl (fun E hG X hQ hNm => ?_)
  subst hG
  refine z_aload_n X dX7_refusalOfNumber_0 rfl ?_
  refine z_iload_n X dX7_refusalOfNumber_1 rfl ?_
  refine z_callVr X (As := [_]) dX7_refusalOfNumber_2 m_X7_drawerAt i_X7_drawerAt l_X7_98 (c_X7_drawerAt (zg E) hA hd) (by first | assumption | exact zbigA.o (by assumption)) rfl rfl rfl (Nat.le_of_ble_eq_true rfl) ⟨Nat.le_of_ble_eq_true rfl, Nat.le_of_ble_eq_true rfl⟩ ⟨Nat.le_of_ble_eq_true rfl, Nat.le_of_ble_eq_true rfl⟩ ⟨rfl, rfl⟩ (fun x m1 hm1 => ?_)
  rcases x with _ | x
  · obtain ⟨rfl, hx⟩ := hm1
    refine z_astoreN X dX7_refusalOfNumber_5 [_, _, _, _, _] (by decide) rfl ?_
    refine z_aloadN X dX7_refusalOfNumber_7 rfl ?_
    refine z_ifnonnullN X dX7_refusalOfNumber_9 ?_
    refine z_iconst X dX7_refusalOfNumber_12 ?_
    refine z_ireturn (st := []) X rfl hQ dX7_refusalOfNumber_13 ⟨rfl, _, rfl, ?_⟩
    have h := hx.no
    refine ⟨rfl, ?_⟩
    unfold zref
    rw [if_pos (by omega)]
  · obtain ⟨rfl, hx⟩ := hm1
    refine z_astore X dX7_refusalOfNumber_5 [_, _, _, _, _] (by decide) rfl ?_
    refine z_aload X dX7_refusalOfNumber_7 rfl ?_
    refine z_ifnonnull X dX7_refusalOfNumber_9 14 (by decide) ?_
    obtain ⟨k, hk, rfl, rfl⟩ := hx.yes
    have hd1 := (hD k hk).2
    have hd2 := hd1.1
    obtain ⟨k5, hkr⟩ := hm.2.1 k hk
    have k01 := hkr.b4
    refine z_aload X dX7_refusalOfNumber_14 rfl ?_
    refine z_iload_n X dX7_refusalOfNumber_16 rfl ?_
    refine z_callVr X (As := [_]) dX7_refusalOfNumber_17 m_X5_number i_X5_number l_X7_237 (c_X5_number (zg E) hd1 hw) (by first | assumption | exact zbigA.o (by assumption)) rfl rfl rfl (Nat.le_of_ble_eq_true rfl) ⟨Nat.le_of_ble_eq_true rfl, Nat.le_of_ble_eq_true rfl⟩ ⟨Nat.le_of_ble_eq_true rfl, Nat.le_of_ble_eq_true rfl⟩ ⟨rfl, rfl⟩ (fun y m1 hm2 => ?_)
    rcases y with _ | y
    · obtain ⟨rfl, hy⟩ := hm2
      refine z_ifnullN X dX7_refusalOfNumber_20 27 (by decide) ?_
      refine z_bipush X dX7_refusalOfNumber_27 (by decide) ?_
      refine z_ireturn (st := []) X rfl hQ dX7_refusalOfNumber_29 ⟨rfl, _, rfl, ?_⟩
      have h : ¬ (0 ≤ w ∧ w < 4) := fun h => by rw [if_pos h] at hy; cases hy
      refine ⟨rfl, ?_⟩
      unfold zref
      rw [if_neg (by omega), if_pos (by omega)]
    · obtain ⟨rfl, hy⟩ := hm2
      have h : 0 ≤ w ∧ w < 4 := by
        by_cases h : 0 ≤ w ∧ w < 4
        · exact h
        · rw [if_neg h] at hy; cases hy
      refine z_ifnull X dX7_refusalOfNumber_20 ?_
      refine z_iload_n X dX7_refusalOfNumber_23 rfl ?_
      refine z_if_ne X dX7_refusalOfNumber_24 30 (by decide) (by omega) (fun h24 => ?_) (fun h24 => ?_)
      · refine z_aload X dX7_refusalOfNumber_30 rfl ?_
        refine z_getI X dX7_refusalOfNumber_32 f_X7_114 rfl (by first | assumption | exact zbigA.o (by assumption)) ?_
        refine z_if_eq X dX7_refusalOfNumber_35 42 (by decide) (by omega) (fun h35 => ?_) (fun h35 => ?_)
        · refine z_bipush X dX7_refusalOfNumber_42 (by decide) ?_
          refine z_ireturn (st := []) X rfl hQ dX7_refusalOfNumber_44 ⟨rfl, _, rfl, ?_⟩
          refine ⟨rfl, ?_⟩
          unfold zref
          rw [if_neg (by omega), if_neg (by omega), Int.toNat_natCast]
          rcases hkr.h4 with ⟨h, e⟩ | ⟨h, y, e, _⟩ <;> rw [e] <;> first | rfl | omega
        · refine z_iconst X dX7_refusalOfNumber_38 ?_
          refine z_goto X dX7_refusalOfNumber_39 44 (by decide) ?_
          refine z_ireturn (st := []) X rfl hQ dX7_refusalOfNumber_44 ⟨rfl, _, rfl, ?_⟩
          refine ⟨rfl, ?_⟩
          unfold zref
          rw [if_neg (by omega), if_neg (by omega), Int.toNat_natCast]
          rcases hkr.h4 with ⟨h, e⟩ | ⟨h, y, e, _⟩ <;> rw [e] <;> first | rfl | omega
      · refine z_bipush X dX7_refusalOfNumber_27 (by decide) ?_
        refine z_ireturn (st := []) X rfl hQ dX7_refusalOfNumber_29 ⟨rfl, _, rfl, ?_⟩
        refine ⟨rfl, ?_⟩
        unfold zref
        rw [if_neg (by omega), if_pos (by omega)]
theorem c_X7_numberAt (G : zG) {A : zA} {m : zM} {b : Nat} {d w : Int} (hA : zmilA A b) (hd : zi32 d) (hw : zi32 w) : zMet G k_X7_numberAt [vr b, vi d, vi w] A m (zpr A (fun x m' => m = m' ∧ ((x = none ∧ ¬ (zin d 0 7 ∧ zin w 0 3)) ∨ (zin d 0 7 ∧ zin w 0 3 ∧ x = some (b + 61 + 9 * d.toNat + 1 + 2 * w.toNat))))) := by
  obtain ⟨⟨hB, r0, r1, r2, r3, r4, r5, r6, r7, r8⟩, ⟨a1, a2, a3⟩, ⟨gG, gE, gP, gF, gT, gU⟩, hS, hD, hC⟩ := id hA
  unfold zi32 at hw
  refine zMet.of RX7 rfl (by decide +kernel) (Nat.le_of_ble_eq_true rfl) [some (vr b), some (vi d), some (vi w), none] rfl (fun E hG X hQ hNm => ?_)
  subst hG
  refine z_aload_n X dX7_numberAt_0 rfl ?_
  refine z_iload_n X dX7_numberAt_1 rfl ?_
  refine z_callVr X (As := [_]) dX7_numberAt_2 m_X7_drawerAt i_X7_drawerAt l_X7_98 (c_X7_drawerAt (zg E) hA hd) (by first | assumption | exact zbigA.o (by assumption)) rfl rfl rfl (Nat.le_of_ble_eq_true rfl) ⟨Nat.le_of_ble_eq_true rfl, Nat.le_of_ble_eq_true rfl⟩ ⟨Nat.le_of_ble_eq_true rfl, Nat.le_of_ble_eq_true rfl⟩ ⟨rfl, rfl⟩ (fun x m1 hm1 => ?_)
  rcases x with _ | x
  · obtain ⟨rfl, hx⟩ := hm1
    refine z_astore_nN X dX7_numberAt_5 [_, _, _, _] (by decide) rfl ?_
    refine z_aload_nN X dX7_numberAt_6 rfl ?_
    refine z_ifnonnullN X dX7_numberAt_7 ?_
    refine z_null X dX7_numberAt_10 ?_
    refine z_goto X dX7_numberAt_11 19 (by decide) ?_
    refine z_areturn (st := []) X rfl hQ dX7_numberAt_19 (Or.inl rfl) ⟨rfl, none, rfl, ?_⟩
    have h := hx.no
    exact ⟨rfl, Or.inl ⟨rfl, fun g => h g.1⟩⟩
  · obtain ⟨rfl, hx⟩ := hm1
    refine z_astore_n X dX7_numberAt_5 [_, _, _, _] (by decide) rfl ?_
    refine z_aload_n X dX7_numberAt_6 rfl ?_
    refine z_ifnonnull X dX7_numberAt_7 14 (by decide) ?_
    obtain ⟨k, hk, rfl, rfl⟩ := hx.yes
    have hd1 := (hD k hk).2
    have hd2 := hd1.1
    refine z_aload_n X dX7_numberAt_14 rfl ?_
    refine z_iload_n X dX7_numberAt_15 rfl ?_
    refine z_callVr X (As := [_]) dX7_numberAt_16 m_X5_number i_X5_number l_X7_237 (c_X5_number (zg E) hd1 hw) (by first | assumption | exact zbigA.o (by assumption)) rfl rfl rfl (Nat.le_of_ble_eq_true rfl) ⟨Nat.le_of_ble_eq_true rfl, Nat.le_of_ble_eq_true rfl⟩ ⟨Nat.le_of_ble_eq_true rfl, Nat.le_of_ble_eq_true rfl⟩ ⟨rfl, rfl⟩ (fun y m1 hm2 => ?_)
    rcases y with _ | y
    · obtain ⟨rfl, hy⟩ := hm2
      refine z_areturn (st := []) X rfl hQ dX7_numberAt_19 (Or.inl rfl) ⟨rfl, none, rfl, ?_⟩
      exact ⟨rfl, Or.inl ⟨rfl, fun g => by rw [if_pos (by omega)] at hy; cases hy⟩⟩
    · obtain ⟨rfl, hy⟩ := hm2
      refine z_areturn (st := []) X rfl hQ dX7_numberAt_19 (Or.inr ⟨_, rfl⟩) ⟨rfl, some _, rfl, ?_⟩
      refine ⟨rfl, Or.inr ?_⟩
      by_cases h : 0 ≤ w ∧ w < 4
      · rw [if_pos h] at hy
        exact ⟨by omega, by omega, by rw [hy, Int.toNat_natCast]⟩
      · rw [if_neg h] at hy; cases hy
theorem zref_bd (σ : zSt) (d w o : Int) : -3 ≤ zref σ d w o ∧ zref σ d w o ≤ 0 := by
  unfold zref
  split
  · omega
  · split
    · omega
    · split <;> omega
theorem zref_no {σ : zSt} {d w o : Int} {fits : Prop} [Decidable fits] {f : Int → Int} (ho : o = 1 ↔ fits) (h : zref σ d w o ≠ 0) : sp_num σ d w fits f = zref σ d w o := by
  rcases zref_num (σ := σ) (d := d) (w := w) (f := f) ho with ⟨_, e⟩ | ⟨e, _⟩
  · exact e
  · exact absurd e h
theorem zref_yes {A : zA} {m : zM} {b : Nat} {σ : zSt} {d w o : Int} {fits : Prop} [Decidable fits] {f : Int → Int} (hA : zmilA A b) (hm : zCR b m σ) (ho : o = 1 ↔ fits) (h : zref σ d w o = 0) : zin d 0 7 ∧ zin w 0 3 ∧ fits ∧ ∃ N v, zbigA A (b + 61 + 9 * d.toNat + 1 + 2 * w.toNat) N ∧ zbi m (b + 61 + 9 * d.toNat + 1 + 2 * w.toNat) N v ∧ sp_num σ d w fits f = f v := by
  rcases zref_num (σ := σ) (d := d) (w := w) (f := f) ho with ⟨e, _⟩ | ⟨_, h1, h2, h3, y, h4, h5⟩
  · exact absurd h e
  · rcases (hm.2.1 d.toNat (by omega)).2.h4 with ⟨_, e⟩ | ⟨_, y', e, _, _, _, hz⟩
    · rw [e] at h4; cases h4
    · rw [e] at h4
      obtain rfl := Option.some.inj h4
      obtain ⟨N, g1, g2⟩ := znum_bi (hA.2.2.2.2.1 d.toNat (by omega)).2 hz h2
      exact ⟨h1, h2, h3, N, _, g1, g2, h5⟩
theorem c_X7_bits (G : zG) {A : zA} {m : zM} {b : Nat} {σ : zSt} {d w : Int} (hA : zmilA A b) (hm : zCR b m σ) (hd : zi32 d) (hw : zi32 w) : zMet G k_X7_bits [vr b, vi d, vi w] A m (zpi A (fun r m' => m = m' ∧ r = sp_bits σ d w)) := by
  obtain ⟨⟨hB, r0, r1, r2, r3, r4, r5, r6, r7, r8⟩, ⟨a1, a2, a3⟩, ⟨gG, gE, gP, gF, gT, gU⟩, hS, hD, hC⟩ := id hA
  have no := fun (o : Int) (ho : o = 1 ↔ True) => zref_no (σ := σ) (d := d) (w := w) (o := o) (fits := True) (f := fun v => (zbitsf v : Int)) ho
  have yes := fun (o : Int) (ho : o = 1 ↔ True) => zref_yes (σ := σ) (d := d) (w := w) (o := o) (fits := True) (f := fun v => (zbitsf v : Int)) hA hm ho
  have bd := zref_bd σ d w
  refine zMet.of RX7 rfl (by decide +kernel) (Nat.le_of_ble_eq_true rfl) [some (vr b), some (vi d), some (vi w), none, none] rfl (fun E hG X hQ hNm => ?_)
  subst hG
  refine z_aload_n X dX7_bits_0 rfl ?_
  refine z_iload_n X dX7_bits_1 rfl ?_
  refine z_iload_n X dX7_bits_2 rfl ?_
  refine z_iconst X dX7_bits_3 ?_
  refine z_callVi X (As := [_, _, _]) dX7_bits_4 m_X7_refusalOfNumber i_X7_refusalOfNumber l_X7_131 (c_X7_refusalOfNumber (zg E) hA hm hd hw (by omega)) (by first | assumption | exact zbigA.o (by assumption)) rfl rfl rfl (Nat.le_of_ble_eq_true rfl) ⟨Nat.le_of_ble_eq_true rfl, Nat.le_of_ble_eq_true rfl⟩ ⟨Nat.le_of_ble_eq_true rfl, Nat.le_of_ble_eq_true rfl⟩ ⟨rfl, rfl⟩ (fun r m1 hm1 => ?_)
  obtain ⟨rfl, hr⟩ := hm1
  have hb := bd (1)
  rw [← hr] at hb
  refine z_istore_n X dX7_bits_7 (fun y => [_, _, _, some (vi y), _]) (by decide) (fun _ => rfl) (fun q hq => ?_)
  obtain rfl : q = r := by omega
  refine z_aload_n X dX7_bits_8 rfl ?_
  refine z_iload_n X dX7_bits_9 rfl ?_
  refine z_iload_n X dX7_bits_10 rfl ?_
  refine z_callVr X (As := [_, _]) dX7_bits_11 m_X7_numberAt i_X7_numberAt l_X7_135 (c_X7_numberAt (zg E) hA hd hw) (by first | assumption | exact zbigA.o (by assumption)) rfl rfl rfl (Nat.le_of_ble_eq_true rfl) ⟨Nat.le_of_ble_eq_true rfl, Nat.le_of_ble_eq_true rfl⟩ ⟨Nat.le_of_ble_eq_true rfl, Nat.le_of_ble_eq_true rfl⟩ ⟨rfl, rfl⟩ (fun x m1 hm2 => ?_)
  rcases x with _ | x
  · obtain ⟨rfl, hx⟩ := hm2
    refine z_astoreN X dX7_bits_14 [_, _, _, _, _] (by decide) rfl ?_
    refine z_iload_n X dX7_bits_16 rfl ?_
    refine z_if_ne X dX7_bits_17 25 (by decide) (by omega) (fun h17 => ?_) (fun h17 => ?_)
    · refine z_iload_n X dX7_bits_25 rfl ?_
      refine z_goto X dX7_bits_26 34 (by decide) ?_
      refine z_ireturn (st := []) X rfl hQ dX7_bits_34 ⟨rfl, _, rfl, ?_⟩
      exact ⟨rfl, (hr.trans (no (1) (by simp) (by omega)).symm)⟩
    · refine z_aloadN X dX7_bits_20 rfl ?_
      refine z_ifnonnullN X dX7_bits_22 ?_
      refine z_iload_n X dX7_bits_25 rfl ?_
      refine z_goto X dX7_bits_26 34 (by decide) ?_
      refine z_ireturn (st := []) X rfl hQ dX7_bits_34 ⟨rfl, _, rfl, ?_⟩
      exact absurd hx (fun h => (h.elim (fun h => h.2 ⟨(yes (1) (by simp) (by omega)).1, (yes (1) (by simp) (by omega)).2.1⟩) (fun h => by have := h.2.2; cases this)))
  · obtain ⟨rfl, hx⟩ := hm2
    refine z_astore X dX7_bits_14 [_, _, _, _, _] (by decide) rfl ?_
    refine z_iload_n X dX7_bits_16 rfl ?_
    refine z_if_ne X dX7_bits_17 25 (by decide) (by omega) (fun h17 => ?_) (fun h17 => ?_)
    · refine z_iload_n X dX7_bits_25 rfl ?_
      refine z_goto X dX7_bits_26 34 (by decide) ?_
      refine z_ireturn (st := []) X rfl hQ dX7_bits_34 ⟨rfl, _, rfl, ?_⟩
      exact ⟨rfl, (hr.trans (no (1) (by simp) (by omega)).symm)⟩
    · refine z_aload X dX7_bits_20 rfl ?_
      refine z_ifnonnull X dX7_bits_22 29 (by decide) ?_
      obtain ⟨_, _, _, N, v, gb, gv, hv⟩ := yes 1 (by simp) (by omega)
      obtain rfl : x = b + 61 + 9 * d.toNat + 1 + 2 * w.toNat := by
        rcases hx with h | h
        · cases h.1
        · exact Option.some.inj h.2.2
      refine z_aload X dX7_bits_29 rfl ?_
      refine z_callVi X (As := []) dX7_bits_31 m_X0_bitLength i_X0_bitLength l_X7_139 (c_X0_bitLength (zg E) gb gv) (by first | assumption | exact zbigA.o (by assumption)) rfl rfl rfl (Nat.le_of_ble_eq_true rfl) ⟨Nat.le_of_ble_eq_true rfl, Nat.le_of_ble_eq_true rfl⟩ ⟨Nat.le_of_ble_eq_true rfl, Nat.le_of_ble_eq_true rfl⟩ ⟨rfl, rfl⟩ (fun r9 m9 hm9 => ?_)
      refine z_ireturn (st := []) X rfl hQ dX7_bits_34 ⟨rfl, _, rfl, ?_⟩
      obtain ⟨rfl, n, rfl, hn⟩ := hm9
      refine ⟨rfl, ?_⟩
      rw [zisbits_unique hn (zbitsf_is v)]
      exact hv.symm

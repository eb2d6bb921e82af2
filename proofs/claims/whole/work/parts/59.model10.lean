/-! The model: the calls for a number -/
def zbar (σ : zSt) (d o : Int) : Int :=
  if ¬ zin d 0 7 then -1 else if o ≠ 1 then -2
  else match sD σ d.toNat with
    | none => -3
    | some _ => 0
theorem zbar_bd (σ : zSt) (d o : Int) : -3 ≤ zbar σ d o ∧ zbar σ d o ≤ 0 := by
  unfold zbar
  split
  · omega
  · split
    · omega
    · split <;> omega
theorem zbar_no {σ : zSt} {d w o : Int} {fits : Prop} [Decidable fits] {f : Int → Int} (ho : o = 1 ↔ (zin w 0 3 ∧ fits)) (h : zbar σ d o ≠ 0) : sp_num σ d w fits f = zbar σ d o := by
  by_cases h1 : zin d 0 7
  · have e1 : zbar σ d o = if o ≠ 1 then -2 else match sD σ d.toNat with
      | none => -3
      | some _ => 0 := by unfold zbar; rw [if_neg (not_not_intro h1)]
    have e2 : sp_num σ d w fits f = if ¬ zin w 0 3 ∨ ¬ fits then -2 else match sD σ d.toNat with
      | none => -3
      | some x => f (znum x.2.2.2 w) := by unfold sp_num; rw [if_neg (not_not_intro h1)]; rfl
    rw [e1] at h ⊢
    rw [e2]
    by_cases h2 : o = 1
    · obtain ⟨h3, h4⟩ := ho.mp h2
      rw [if_neg (not_not_intro h2)] at h ⊢
      rw [if_neg (fun g => g.elim (fun g => g h3) (fun g => g h4))]
      rcases hx : sD σ d.toNat with _ | y
      · rfl
      · rw [hx] at h; exact absurd rfl h
    · rw [if_pos h2]
      by_cases h3 : zin w 0 3
      · rw [if_pos (Or.inr (fun h4 => h2 (ho.mpr ⟨h3, h4⟩)))]
      · rw [if_pos (Or.inl h3)]
  · have e1 : zbar σ d o = -1 := by unfold zbar; rw [if_pos h1]
    have e2 : sp_num σ d w fits f = -1 := by unfold sp_num; rw [if_pos h1]
    rw [e1, e2]
theorem zbar_yes {m : zM} {q : Nat} {σ : zSt} {d w o : Int} {fits : Prop} [Decidable fits] {f : Int → Int} (hm : zMR q m σ) (ho : o = 1 ↔ (zin w 0 3 ∧ fits)) (h : zbar σ d o = 0) : zin d 0 7 ∧ zin w 0 3 ∧ fits ∧ ∃ v, zsl m q (4 * d.toNat + w.toNat) v ∧ sp_num σ d w fits f = f v := by
  have h1 : zin d 0 7 := by
    by_cases h1 : zin d 0 7
    · exact h1
    · unfold zbar at h; rw [if_pos h1] at h; omega
  have h2 : o = 1 := by
    by_cases h2 : o = 1
    · exact h2
    · unfold zbar at h; rw [if_neg (not_not_intro h1), if_pos h2] at h; omega
  obtain ⟨h3, h4⟩ := ho.mp h2
  have e2 : sp_num σ d w fits f = match sD σ d.toNat with
      | none => -3
      | some x => f (znum x.2.2.2 w) := by unfold sp_num; rw [if_neg (not_not_intro h1), if_neg (fun g => g.elim (fun g => g h3) (fun g => g h4))]; rfl
  unfold zbar at h
  rw [if_neg (not_not_intro h1), if_neg (not_not_intro h2)] at h
  rcases (hm.2.1 d.toNat (by omega)).h7 with ⟨_, e⟩ | ⟨y, e, _, _, _, b1, b2, b3, b4⟩
  · rw [e] at h; simp at h
  · refine ⟨h1, h3, h4, znum y.2.2.2 w, ?_, by rw [e2, e]⟩
    rcases (show w = 0 ∨ w = 1 ∨ w = 2 ∨ w = 3 by omega) with rfl | rfl | rfl | rfl
    · exact b1
    · exact b2
    · exact b3
    · exact b4
theorem c_X8_bars (G : zG) {A : zA} {m : zM} {q : Nat} {σ : zSt} {d o : Int} (hA : zmodA A q) (hm : zMR q m σ) (hσ : zStok σ) (hd : zi32 d) (ho : o = 0 ∨ o = 1) : zMet G k_X8_bars [vr q, vi d, vi o] A m (zpi A (fun r m' => m = m' ∧ r = zbar σ d o)) := by
  obtain ⟨⟨hO0, f0, f1, f2, f3, f4, f5, f6, f7, f8, f9, f10, f11, f12, f16, f24, f25⟩, ⟨g1, g2, g3⟩, ⟨g4, g5, g6, g7, g8, g9⟩, ⟨g10, g11, g12, g13⟩, g14, g15, g16⟩ := id hA
  unfold zi32 at hd
  refine zMet.of RX8 rfl (by decide +kernel) (Nat.le_of_ble_eq_true rfl) [some (vr q), some (vi d), some (vi o)] rfl (fun E hG X hQ hNm => ?_)
  subst hG
  refine z_iload_n X dX8_bars_0 rfl ?_
  refine z_callSi X (As := [_]) dX8_bars_1 m_X8_isDrawer s_X8_isDrawer l_X8_150 (c_X8_isDrawer (zg E) hd) rfl rfl (Nat.le_of_ble_eq_true rfl) ⟨Nat.le_of_ble_eq_true rfl, Nat.le_of_ble_eq_true rfl⟩ ⟨Nat.le_of_ble_eq_true rfl, Nat.le_of_ble_eq_true rfl⟩ ⟨rfl, rfl⟩ (fun r1 m1 hm1 => ?_)
  obtain ⟨rfl, hr1⟩ := hm1
  refine z_if_ne X dX8_bars_4 11 (by decide) (by omega) (fun h4 => ?_) (fun h4 => ?_)
  · refine z_iload_n X dX8_bars_11 rfl ?_
    refine z_if_ne X dX8_bars_12 20 (by decide) (by omega) (fun h12 => ?_) (fun h12 => ?_)
    · obtain ⟨k, rfl⟩ : ∃ k : Nat, d = (k : Int) := ⟨d.toNat, by omega⟩
      have hkr := hm.2.1 k (by omega)
      have bk : (-6 ≤ m (q + 7) k ∧ m (q + 7) k < 6) ∧ (m (q + 7) k = -6 ∨ 0 ≤ m (q + 7) k) := by
        rcases hkr.h7 with ⟨h, e⟩ | ⟨y, e, h1, _⟩
        · omega
        · have := (hσ.2.1 k y (by omega) e).1
          omega
      refine z_aload_n X dX8_bars_20 rfl ?_
      refine z_getR X dX8_bars_21 f_X8_30 rfl (by first | assumption | exact zbigA.o (by assumption)) (by assumption) ?_
      refine z_iload_n X dX8_bars_24 rfl ?_
      refine z_iald X (k) dX8_bars_25 (by omega) (by assumption) (by omega) (by omega) ?_
      refine z_bipush X dX8_bars_26 (by decide) ?_
      refine z_icmp_ne X dX8_bars_28 36 (by decide) (by omega) (by omega) (fun h28 => ?_) (fun h28 => ?_)
      · refine z_iconst X dX8_bars_36 ?_
        refine z_ireturn (st := []) X rfl hQ dX8_bars_37 ⟨rfl, _, rfl, ?_⟩
        refine ⟨rfl, ?_⟩
        unfold zbar
        first
          | rw [if_pos (by omega)]
          | rw [if_neg (by omega), if_pos (by omega)]
          | (rw [if_neg (by omega), if_neg (by omega), Int.toNat_natCast]
             rcases hkr.h7 with ⟨h, e⟩ | ⟨y, e, h, _⟩
             · rw [e]; first | done | rfl | (exfalso; omega)
             · rw [e]; first | done | rfl | (exfalso; omega))
      · refine z_bipush X dX8_bars_31 (by decide) ?_
        refine z_goto X dX8_bars_33 37 (by decide) ?_
        refine z_ireturn (st := []) X rfl hQ dX8_bars_37 ⟨rfl, _, rfl, ?_⟩
        refine ⟨rfl, ?_⟩
        unfold zbar
        first
          | rw [if_pos (by omega)]
          | rw [if_neg (by omega), if_pos (by omega)]
          | (rw [if_neg (by omega), if_neg (by omega), Int.toNat_natCast]
             rcases hkr.h7 with ⟨h, e⟩ | ⟨y, e, h, _⟩
             · rw [e]; first | done | rfl | (exfalso; omega)
             · rw [e]; first | done | rfl | (exfalso; omega))
    · refine z_bipush X dX8_bars_15 (by decide) ?_
      refine z_goto X dX8_bars_17 37 (by decide) ?_
      refine z_ireturn (st := []) X rfl hQ dX8_bars_37 ⟨rfl, _, rfl, ?_⟩
      refine ⟨rfl, ?_⟩
      unfold zbar
      first
        | rw [if_pos (by omega)]
        | rw [if_neg (by omega), if_pos (by omega)]
        | (rw [if_neg (by omega), if_neg (by omega), Int.toNat_natCast]
           rcases hkr.h7 with ⟨h, e⟩ | ⟨y, e, h, _⟩
           · rw [e]; first | done | rfl | (exfalso; omega)
           · rw [e]; first | done | rfl | (exfalso; omega))
  · refine z_iconst X dX8_bars_7 ?_
    refine z_goto X dX8_bars_8 37 (by decide) ?_
    refine z_ireturn (st := []) X rfl hQ dX8_bars_37 ⟨rfl, _, rfl, ?_⟩
    refine ⟨rfl, ?_⟩
    unfold zbar
    first
      | rw [if_pos (by omega)]
      | rw [if_neg (by omega), if_pos (by omega)]
      | (rw [if_neg (by omega), if_neg (by omega), Int.toNat_natCast]
         rcases hkr.h7 with ⟨h, e⟩ | ⟨y, e, h, _⟩
         · rw [e]; first | done | rfl | (exfalso; omega)
         · rw [e]; first | done | rfl | (exfalso; omega))
theorem zbitsf_s {v : Int} (hv : 0 < v) : zbitsf v = zbitsf (v / 2) + 1 := by
  refine zisbits_unique (zbitsf_is v) ?_
  rcases zbitsf_is (v / 2) with ⟨h1, h2⟩ | ⟨h1, h2, h3⟩
  · rw [h2]
    exact Or.inr ⟨by omega, by simp; omega, by simp; omega⟩
  · refine Or.inr ⟨by omega, ?_, ?_⟩
    · rw [Nat.add_sub_cancel]
      have e : 2 ^ zbitsf (v / 2) = 2 ^ (zbitsf (v / 2) - 1) * 2 := by rw [← Nat.pow_succ]; congr 1; omega
      omega
    · rw [Nat.pow_succ]
      omega
theorem zl8_bits {E : zCx} {rm : Room} {A : zA} (X : zOK E cX8_bits RX8 8 (some .int) rm) {m : zM} {v0 v1 v2 : Value} {x3 x4 : Int} {P : Int → zM → Prop} (hQ : zRet E (zpi A P) 0 0) {R : Int} (hP : P R m) : ∀ (r : Nat) (v n : Int), 0 ≤ v → v < ((2 ^ r : Nat) : Int) → r ≤ 32 → n + (zbitsf v : Int) = R → zW E (0, 0) A m 82 [some v0, some v1, some v2, some (vi x3), some (vi x4), some (vi n), some (vl v), none] [] := by
  intro r
  induction r with
  | zero =>
    intro v n h0 h1 hr hR
    have hv : v = 0 := by simp at h1; omega
    refine z_lload X dX8_bits_82 rfl ?_
    refine z_lconst X dX8_bits_84 0 rfl ?_
    refine z_lcmp_le X dX8_bits_85 dX8_bits_86 101 (by decide) (by omega) (by omega) (fun h85 => ?_) (fun h85 => ?_)
    · refine z_iload X dX8_bits_101 rfl ?_
      refine z_ireturn (st := []) X rfl hQ dX8_bits_103 ⟨rfl, _, rfl, ?_⟩
      have e : zbitsf v = 0 := by rw [hv]; rfl
      rw [e] at hR
      have e2 : n = R := by omega
      rw [e2]
      exact hP
    · exact absurd hv (by omega)
  | succ r ih =>
    intro v n h0 h1 hr hR
    have h2 : ((2 ^ (r + 1) : Nat) : Int) ≤ 4294967296 := by
      have := Nat.pow_le_pow_right (by omega : 0 < 2) hr
      omega
    refine z_lload X dX8_bits_82 rfl ?_
    refine z_lconst X dX8_bits_84 0 rfl ?_
    refine z_lcmp_le X dX8_bits_85 dX8_bits_86 101 (by decide) (by omega) (by omega) (fun h85 => ?_) (fun h85 => ?_)
    · refine z_iload X dX8_bits_101 rfl ?_
      refine z_ireturn (st := []) X rfl hQ dX8_bits_103 ⟨rfl, _, rfl, ?_⟩
      have e : zbitsf v = 0 := by rw [show v = 0 by omega]; rfl
      rw [e] at hR
      have e2 : n = R := by omega
      rw [e2]
      exact hP
    · refine z_iinc X dX8_bits_89 rfl (fun y => [_, _, _, _, _, some (vi y), _, _]) (fun _ => rfl) (fun n2 hn2 => ?_)
      refine z_lload X dX8_bits_92 rfl ?_
      refine z_iconst X dX8_bits_94 ?_
      refine z_lshr X dX8_bits_95 1 2 rfl (by decide) (by decide) (by omega) ?_
      refine z_lstore X dX8_bits_96 (fun y => [_, _, _, _, _, _, some (vl y), _]) (by decide) (fun _ => rfl) (fun v2' hv2 => ?_)
      refine z_goto X dX8_bits_98 82 (by decide) ?_
      refine ih v2' n2 (by omega) ?_ (by omega) ?_
      · rw [Nat.pow_succ] at h1
        omega
      · have := zbitsf_s (v := v) (by omega)
        rw [hv2, hn2]
        omega
theorem c_X8_bits (G : zG) {A : zA} {m : zM} {q : Nat} {σ : zSt} {d w : Int} (hA : zmodA A q) (hm : zMR q m σ) (hσ : zStok σ) (hd : zi32 d) (hw : zi32 w) : zMet G k_X8_bits [vr q, vi d, vi w] A m (zpi A (fun r m' => m = m' ∧ r = sp_bits σ d w)) := by
  obtain ⟨⟨hO0, f0, f1, f2, f3, f4, f5, f6, f7, f8, f9, f10, f11, f12, f16, f24, f25⟩, ⟨g1, g2, g3⟩, ⟨g4, g5, g6, g7, g8, g9⟩, ⟨g10, g11, g12, g13⟩, g14, g15, g16⟩ := id hA
  unfold zi32 at hd hw
  refine zMet.of RX8 rfl (by decide +kernel) (Nat.le_of_ble_eq_true rfl) [some (vr q), some (vi d), some (vi w), none, none, none, none, none] rfl (fun E hG X hQ hNm => ?_)
  subst hG
  refine z_aload_n X dX8_bits_0 rfl ?_
  refine z_iload_n X dX8_bits_1 rfl ?_
  refine z_iload_n X dX8_bits_2 rfl ?_
  refine z_i2l X dX8_bits_3 (by omega) ?_
  refine z_lconst X dX8_bits_4 0 rfl ?_
  refine z_ldc2 X dX8_bits_5 q_X8_94 (3) (by decide) ?_
  refine z_callSi X (As := [_, _, _]) dX8_bits_8 m_X8_in s_X8_in l_X8_86 (c_X8_in (zg E) (by omega) (by omega) (by omega)) rfl rfl (Nat.le_of_ble_eq_true rfl) ⟨Nat.le_of_ble_eq_true rfl, Nat.le_of_ble_eq_true rfl⟩ ⟨Nat.le_of_ble_eq_true rfl, Nat.le_of_ble_eq_true rfl⟩ ⟨rfl, rfl⟩ (fun o m1 hm1 => ?_)
  obtain ⟨rfl, hr1⟩ := hm1
  have hoo : o = 1 ↔ (zin w 0 3 ∧ True) := by simp only [and_true]; omega
  refine z_callVi X (As := [_, _]) dX8_bits_11 m_X8_bars i_X8_bars l_X8_161 (c_X8_bars (zg E) hA hm hσ hd (by omega)) (by first | assumption | exact zbigA.o (by assumption)) rfl rfl rfl (Nat.le_of_ble_eq_true rfl) ⟨Nat.le_of_ble_eq_true rfl, Nat.le_of_ble_eq_true rfl⟩ ⟨Nat.le_of_ble_eq_true rfl, Nat.le_of_ble_eq_true rfl⟩ ⟨rfl, rfl⟩ (fun r1 m1 hm1 => ?_)
  obtain ⟨rfl, hr⟩ := hm1
  have hb := zbar_bd σ d o
  rw [← hr] at hb
  refine z_istore_n X dX8_bits_14 (fun y => [_, _, _, some (vi y), _, _, _, _]) (by decide) (fun _ => rfl) (fun p hp => ?_)
  obtain rfl : p = r1 := by omega
  refine z_iload_n X dX8_bits_15 rfl ?_
  refine z_if_ge X dX8_bits_16 21 (by decide) (by omega) (fun h16 => ?_) (fun h16 => ?_)
  · obtain ⟨hd7, hw3, -, v, gv, hv⟩ := zbar_yes (d := d) (o := o) (f := fun v => (zbitsf v : Int)) hm hoo (by omega)
    obtain ⟨k, rfl⟩ : ∃ k : Nat, d = (k : Int) := ⟨d.toNat, by omega⟩
    obtain ⟨t, rfl⟩ : ∃ t : Nat, w = (t : Int) := ⟨w.toNat, by omega⟩
    rw [Int.toNat_natCast, Int.toNat_natCast] at gv
    obtain ⟨n, ⟨n1, n2⟩, n3, n4, n5⟩ := gv
    refine z_iconst X dX8_bits_21 ?_
    refine z_iload_n X dX8_bits_22 rfl ?_
    refine z_imul X dX8_bits_23 ?_
    refine z_iload_n X dX8_bits_24 rfl ?_
    refine z_iadd X dX8_bits_25 ?_
    refine z_istore X dX8_bits_26 (fun y => [_, _, _, _, some (vi y), _, _, _]) (by decide) (fun _ => rfl) (fun s hsx => ?_)
    obtain rfl : s = ((4 * k + t : Nat) : Int) := by omega
    refine z_aload_n X dX8_bits_28 rfl ?_
    refine z_getR X dX8_bits_29 f_X8_14 rfl (by first | assumption | exact zbigA.o (by assumption)) (by assumption) ?_
    refine z_iload X dX8_bits_32 rfl ?_
    refine z_iald X (4 * k + t) dX8_bits_34 (by omega) (by assumption) (by omega) (by omega) ?_
    refine z_if_ne X dX8_bits_35 40 (by decide) (by omega) (fun h35 => ?_) (fun h35 => ?_)
    · obtain ⟨D, rfl⟩ : ∃ D, n = D + 1 := ⟨n - 1, by omega⟩
      refine z_bipush X dX8_bits_40 (by decide) ?_
      refine z_aload_n X dX8_bits_42 rfl ?_
      refine z_getR X dX8_bits_43 f_X8_14 rfl (by first | assumption | exact zbigA.o (by assumption)) (by assumption) ?_
      refine z_iload X dX8_bits_46 rfl ?_
      refine z_iald X (4 * k + t) dX8_bits_48 (by omega) (by assumption) (by omega) (by omega) ?_
      refine z_iconst X dX8_bits_49 ?_
      refine z_isub X dX8_bits_50 ?_
      refine z_imul X dX8_bits_51 ?_
      refine z_istore X dX8_bits_52 (fun y => [_, _, _, _, _, some (vi y), _, _]) (by decide) (fun _ => rfl) (fun nn hnn => ?_)
      refine z_aload_n X dX8_bits_54 rfl ?_
      refine z_getR X dX8_bits_55 f_X8_8 rfl (by first | assumption | exact zbigA.o (by assumption)) (by assumption) ?_
      refine z_sipush X dX8_bits_58 (by decide) ?_
      refine z_iload X dX8_bits_61 rfl ?_
      refine z_imul X dX8_bits_63 ?_
      refine z_aload_n X dX8_bits_64 rfl ?_
      refine z_getR X dX8_bits_65 f_X8_14 rfl (by first | assumption | exact zbigA.o (by assumption)) (by assumption) ?_
      refine z_iload X dX8_bits_68 rfl ?_
      refine z_iald X (4 * k + t) dX8_bits_70 (by omega) (by assumption) (by omega) (by omega) ?_
      refine z_iadd X dX8_bits_71 ?_
      refine z_iconst X dX8_bits_72 ?_
      refine z_isub X dX8_bits_73 ?_
      refine z_iald X (1200 * (4 * k + t) + D) dX8_bits_74 (by omega) (by assumption) (by omega) (by omega) ?_
      refine z_i2lm X dX8_bits_75 dX8_bits_76 q_X8_64 dX8_bits_79 ?_
      refine z_lstore X dX8_bits_80 (fun y => [_, _, _, _, _, _, some (vl y), _]) (by decide) (fun _ => rfl) (fun tp htp => ?_)
      have wb := zwd_bd m q (4 * k + t) D
      have htp2 : tp = zwd m q (4 * k + t) D := htp
      have tne : zwd m q (4 * k + t) D ≠ 0 := n3 (by omega)
      refine zl8_bits X hQ (R := 32 * (D : Int) + (zbitsf tp : Int)) ⟨rfl, Eq.trans ?_ hv.symm⟩ 32 tp nn (by omega) (by simp; omega) (by omega) (by omega)
      show 32 * (D : Int) + (zbitsf tp : Int) = (zbitsf v : Int)
      have key : zisbits v (32 * D + zbitsf tp) := by
        rcases zbitsf_is tp with h | ⟨c1, c2, c3⟩
        · exact absurd h.1 (by omega)
        · have hz0 := zsum_nonneg (b := 4294967296) (f := zwd m q (4 * k + t)) (n := D) (by omega) (fun i _ => (zwd_bd m q (4 * k + t) i).1)
          have hz1 := zsum_lt (b := 4294967296) (f := zwd m q (4 * k + t)) (n := D) (by omega) (fun i _ => zwd_bd m q (4 * k + t) i)
          have hP := zP2 (32 * D)
          rw [zsum_s, ← htp2] at n4
          rw [zB32] at n4 hz1
          refine Or.inr ⟨by omega, ?_, ?_⟩
          · rw [show 32 * D + zbitsf tp - 1 = 32 * D + (zbitsf tp - 1) by omega, Nat.pow_add]
            have h1 : ((2 ^ (zbitsf tp - 1) : Nat) : Int) * ((2 ^ (32 * D) : Nat) : Int) ≤ tp * ((2 ^ (32 * D) : Nat) : Int) := Int.mul_le_mul_of_nonneg_right (by omega) (by omega)
            rw [← Int.natCast_mul, Nat.mul_comm] at h1
            apply Int.ofNat_le.mp
            rw [n4]
            exact Int.le_trans h1 (Int.le_add_of_nonneg_left hz0)
          · rw [Nat.pow_add]
            have h1 : (tp + 1) * ((2 ^ (32 * D) : Nat) : Int) ≤ ((2 ^ zbitsf tp : Nat) : Int) * ((2 ^ (32 * D) : Nat) : Int) := Int.mul_le_mul_of_nonneg_right (by omega) (by omega)
            rw [Int.add_mul, Int.one_mul, ← Int.natCast_mul, Nat.mul_comm (2 ^ zbitsf tp)] at h1
            apply Int.ofNat_lt.mp
            rw [n4]
            refine Int.lt_of_lt_of_le ?_ h1
            rw [Int.add_comm]
            exact Int.add_lt_add_left hz1 _
      have := zisbits_unique key (zbitsf_is v)
      omega
    · refine z_iconst X dX8_bits_38 ?_
      refine z_ireturn (st := []) X rfl hQ dX8_bits_39 ⟨rfl, _, rfl, ?_⟩
      refine ⟨rfl, ?_⟩
      have h0 : n = 0 := by omega
      rw [h0, zsum_0] at n4
      refine Eq.trans ?_ hv.symm
      show (0 : Int) = (zbitsf v : Int)
      rw [show v = 0 by omega]
      rfl
  · refine z_iload_n X dX8_bits_19 rfl ?_
    refine z_ireturn (st := []) X rfl hQ dX8_bits_20 ⟨rfl, _, rfl, ?_⟩
    exact ⟨rfl, hr.trans (zbar_no (σ := σ) (o := o) hoo (by omega)).symm⟩
theorem zsl.n0 {m : zM} {q s : Nat} {v : Int} (h : zsl m q s v) : ∃ n : Nat, m (q + 2) s = (n : Int) ∧ n ≤ 1200 ∧ (n = 0 ↔ v = 0) ∧ ((m (q + 3) s = 0 ∧ 0 ≤ v) ∨ (m (q + 3) s = 1 ∧ v < 0)) := by
  obtain ⟨n, ⟨h1, h2⟩, h3, h4, h5⟩ := h
  refine ⟨n, h1, h2, ⟨fun e => by rw [e, zsum_0] at h4; omega, fun e => ?_⟩, h5⟩
  rcases Nat.eq_zero_or_pos n with g | g
  · exact g
  · obtain ⟨d, rfl⟩ : ∃ d, n = d + 1 := ⟨n - 1, by omega⟩
    have g1 := zsum_top (b := 4294967296) (n := d) (by omega) (fun i _ => (zwd_bd m q s i).1) (h3 (by omega))
    have g2 := zpow_pos (b := 4294967296) (by omega) d
    omega
theorem c_X8_sign (G : zG) {A : zA} {m : zM} {q : Nat} {σ : zSt} {d w : Int} (hA : zmodA A q) (hm : zMR q m σ) (hσ : zStok σ) (hd : zi32 d) (hw : zi32 w) : zMet G k_X8_sign [vr q, vi d, vi w] A m (zpi A (fun r m' => m = m' ∧ r = sp_sign σ d w)) := by
  obtain ⟨⟨hO0, f0, f1, f2, f3, f4, f5, f6, f7, f8, f9, f10, f11, f12, f16, f24, f25⟩, ⟨g1, g2, g3⟩, ⟨g4, g5, g6, g7, g8, g9⟩, ⟨g10, g11, g12, g13⟩, g14, g15, g16⟩ := id hA
  unfold zi32 at hd hw
  refine zMet.of RX8 rfl (by decide +kernel) (Nat.le_of_ble_eq_true rfl) [some (vr q), some (vi d), some (vi w), none, none] rfl (fun E hG X hQ hNm => ?_)
  subst hG
  refine z_aload_n X dX8_sign_0 rfl ?_
  refine z_iload_n X dX8_sign_1 rfl ?_
  refine z_iload_n X dX8_sign_2 rfl ?_
  refine z_i2l X dX8_sign_3 (by omega) ?_
  refine z_lconst X dX8_sign_4 0 rfl ?_
  refine z_ldc2 X dX8_sign_5 q_X8_94 (3) (by decide) ?_
  refine z_callSi X (As := [_, _, _]) dX8_sign_8 m_X8_in s_X8_in l_X8_86 (c_X8_in (zg E) (by omega) (by omega) (by omega)) rfl rfl (Nat.le_of_ble_eq_true rfl) ⟨Nat.le_of_ble_eq_true rfl, Nat.le_of_ble_eq_true rfl⟩ ⟨Nat.le_of_ble_eq_true rfl, Nat.le_of_ble_eq_true rfl⟩ ⟨rfl, rfl⟩ (fun o m1 hm1 => ?_)
  obtain ⟨rfl, hr1⟩ := hm1
  have hoo : o = 1 ↔ (zin w 0 3 ∧ True) := by simp only [and_true]; omega
  refine z_callVi X (As := [_, _]) dX8_sign_11 m_X8_bars i_X8_bars l_X8_161 (c_X8_bars (zg E) hA hm hσ hd (by omega)) (by first | assumption | exact zbigA.o (by assumption)) rfl rfl rfl (Nat.le_of_ble_eq_true rfl) ⟨Nat.le_of_ble_eq_true rfl, Nat.le_of_ble_eq_true rfl⟩ ⟨Nat.le_of_ble_eq_true rfl, Nat.le_of_ble_eq_true rfl⟩ ⟨rfl, rfl⟩ (fun r1 m1 hm1 => ?_)
  obtain ⟨rfl, hr⟩ := hm1
  have hb := zbar_bd σ d o
  rw [← hr] at hb
  refine z_istore_n X dX8_sign_14 (fun y => [_, _, _, some (vi y), _]) (by decide) (fun _ => rfl) (fun p hp => ?_)
  obtain rfl : p = r1 := by omega
  refine z_iconst X dX8_sign_15 ?_
  refine z_iload_n X dX8_sign_16 rfl ?_
  refine z_imul X dX8_sign_17 ?_
  refine z_iload_n X dX8_sign_18 rfl ?_
  refine z_iadd X dX8_sign_19 ?_
  refine z_istore X dX8_sign_20 (fun y => [_, _, _, _, some (vi y)]) (by decide) (fun _ => rfl) (fun s hsx => ?_)
  refine z_iload_n X dX8_sign_22 rfl ?_
  refine z_if_ge X dX8_sign_23 30 (by decide) (by omega) (fun h23 => ?_) (fun h23 => ?_)
  · obtain ⟨hd7, hw3, -, v, gv, hv⟩ := zbar_yes (d := d) (o := o) (f := fun v => if v = 0 then 0 else if v < 0 then 2 else 1) hm hoo (by omega)
    obtain ⟨k, rfl⟩ : ∃ k : Nat, d = (k : Int) := ⟨d.toNat, by omega⟩
    obtain ⟨t, rfl⟩ : ∃ t : Nat, w = (t : Int) := ⟨w.toNat, by omega⟩
    rw [Int.toNat_natCast, Int.toNat_natCast] at gv
    obtain ⟨n, n1, n2, n3, n5⟩ := gv.n0
    refine z_aload_n X dX8_sign_30 rfl ?_
    refine z_getR X dX8_sign_31 f_X8_14 rfl (by first | assumption | exact zbigA.o (by assumption)) (by assumption) ?_
    refine z_iload X dX8_sign_34 rfl ?_
    refine z_iald X (4 * k + t) dX8_sign_36 (by omega) (by assumption) (by omega) (by omega) ?_
    refine z_if_ne X dX8_sign_37 44 (by decide) (by omega) (fun h37 => ?_) (fun h37 => ?_)
    · refine z_aload_n X dX8_sign_44 rfl ?_
      refine z_getR X dX8_sign_45 f_X8_17 rfl (by first | assumption | exact zbigA.o (by assumption)) (by assumption) ?_
      refine z_iload X dX8_sign_48 rfl ?_
      refine z_bald X (4 * k + t) dX8_sign_50 (by omega) (by assumption) (by omega) (by omega) ?_
      refine z_if_eq X dX8_sign_51 58 (by decide) (by omega) (fun h51 => ?_) (fun h51 => ?_)
      · refine z_iconst X dX8_sign_58 ?_
        refine z_ireturn (st := []) X rfl hQ dX8_sign_59 ⟨rfl, _, rfl, ?_⟩
        first
          | exact ⟨rfl, hr.trans (zbar_no (σ := σ) (o := o) hoo (by omega)).symm⟩
          | (refine ⟨rfl, Eq.trans ?_ hv.symm⟩
             show _ = if v = 0 then (0 : Int) else if v < 0 then 2 else 1
             split
             · omega
             · split <;> omega)
      · refine z_iconst X dX8_sign_54 ?_
        refine z_goto X dX8_sign_55 59 (by decide) ?_
        refine z_ireturn (st := []) X rfl hQ dX8_sign_59 ⟨rfl, _, rfl, ?_⟩
        first
          | exact ⟨rfl, hr.trans (zbar_no (σ := σ) (o := o) hoo (by omega)).symm⟩
          | (refine ⟨rfl, Eq.trans ?_ hv.symm⟩
             show _ = if v = 0 then (0 : Int) else if v < 0 then 2 else 1
             split
             · omega
             · split <;> omega)
    · refine z_iconst X dX8_sign_40 ?_
      refine z_goto X dX8_sign_41 59 (by decide) ?_
      refine z_ireturn (st := []) X rfl hQ dX8_sign_59 ⟨rfl, _, rfl, ?_⟩
      first
        | exact ⟨rfl, hr.trans (zbar_no (σ := σ) (o := o) hoo (by omega)).symm⟩
        | (refine ⟨rfl, Eq.trans ?_ hv.symm⟩
           show _ = if v = 0 then (0 : Int) else if v < 0 then 2 else 1
           split
           · omega
           · split <;> omega)
  · refine z_iload_n X dX8_sign_26 rfl ?_
    refine z_goto X dX8_sign_27 59 (by decide) ?_
    refine z_ireturn (st := []) X rfl hQ dX8_sign_59 ⟨rfl, _, rfl, ?_⟩
    first
      | exact ⟨rfl, hr.trans (zbar_no (σ := σ) (o := o) hoo (by omega)).symm⟩
      | (refine ⟨rfl, Eq.trans ?_ hv.symm⟩
         show _ = if v = 0 then (0 : Int) else if v < 0 then 2 else 1
         split
         · omega
         · split <;> omega)
theorem zl8_rest {E : zCx} {rm : Room} {cs : Nat × Nat} {A : zA} (X : zOK E cX8_rest RX8 9 (some .int) rm) {q s n : Nat} {m : zM} {v1 v2 : Value} {x4 M : Int} (hA : zmodA A q) (hs : s < 60) (hn2 : n ≤ 1200) (hM : 1 ≤ M ∧ M ≤ 1000000)
    (K : zW E cs A m 108 [some (vr q), some v1, some v2, some (vi M), some (vi x4), some (vi (s : Int)), some (vl (zsum 4294967296 (zwd m q s) n % M)), none, some (vi (-1))] []) : ∀ (r : Nat) (left : Int), r ≤ n → left = zsum 4294967296 (fun j => zwd m q s (r + j)) (n - r) % M → zW E cs A m 67 [some (vr q), some v1, some v2, some (vi M), some (vi x4), some (vi (s : Int)), some (vl left), none, some (vi ((r : Int) - 1))] [] := by
  obtain ⟨⟨hO0, f0, f1, f2, f3, f4, f5, f6, f7, f8, f9, f10, f11, f12, f16, f24, f25⟩, ⟨g1, g2, g3⟩, ⟨g4, g5, g6, g7, g8, g9⟩, ⟨g10, g11, g12, g13⟩, g14, g15, g16⟩ := id hA
  intro r
  induction r with
  | zero =>
    intro left h1 h2
    subst h2
    refine z_iload X dX8_rest_67 rfl ?_
    refine z_if_lt X dX8_rest_69 108 (by decide) (by omega) (fun h69 => ?_) (fun h69 => ?_)
    · simp only [Nat.zero_add, Nat.sub_zero]
      exact K
    · exact absurd h69 (by omega)
  | succ r ih =>
    intro left h1 h2
    have wb := zwd_bd m q s r
    have hl0 : 0 ≤ left := by rw [h2]; exact Int.emod_nonneg _ (by omega)
    have hl1 : left < M := by rw [h2]; exact Int.emod_lt_of_pos _ (by omega)
    have e5 : m (q + 1) (1200 * s + r) % 4294967296 = zwd m q s r := rfl
    refine z_iload X dX8_rest_67 rfl ?_
    refine z_if_lt X dX8_rest_69 108 (by decide) (by omega) (fun h69 => ?_) (fun h69 => ?_)
    · exact absurd h69 (by omega)
    · refine z_lload X dX8_rest_72 rfl ?_
      refine z_bipush X dX8_rest_74 (by decide) ?_
      refine z_lshl X dX8_rest_76 32 4294967296 rfl (by decide) (by decide) ?_
      refine z_aload_n X dX8_rest_77 rfl ?_
      refine z_getR X dX8_rest_78 f_X8_8 rfl (by first | assumption | exact zbigA.o (by assumption)) (by assumption) ?_
      refine z_sipush X dX8_rest_81 (by decide) ?_
      refine z_iload X dX8_rest_84 rfl ?_
      refine z_imul X dX8_rest_86 ?_
      refine z_iload X dX8_rest_87 rfl ?_
      refine z_iadd X dX8_rest_89 ?_
      refine z_iald X (1200 * s + r) dX8_rest_90 (by omega) (by assumption) (by omega) (by omega) ?_
      refine z_i2lm X dX8_rest_91 dX8_rest_92 q_X8_64 dX8_rest_95 ?_
      rw [e5]
      refine z_ladd X dX8_rest_96 ?_
      refine z_iload_n X dX8_rest_97 rfl ?_
      refine z_i2l X dX8_rest_98 (by omega) ?_
      refine z_lrem X dX8_rest_99 (by omega) (by omega) ?_
      refine z_lstore X dX8_rest_100 (fun y => [_, _, _, _, _, _, some (vl y), _, _]) (by decide) (fun _ => rfl) (fun l2 hl2 => ?_)
      refine z_iinc X dX8_rest_102 rfl (fun y => [_, _, _, _, _, _, _, _, some (vi y)]) (fun _ => rfl) (fun k hk => ?_)
      obtain rfl : k = (r : Int) - 1 := by omega
      refine z_goto X dX8_rest_105 67 (by decide) ?_
      refine ih l2 (by omega) ?_
      rw [hl2, zsum_tail (by omega), h2, Int.add_emod, Int.mul_emod, Int.emod_emod_of_dvd _ (Int.dvd_refl M)]
      rw [Int.add_comm (zwd m q s r), Int.add_emod (4294967296 * _), Int.mul_emod 4294967296, Int.mul_comm (4294967296 % M)]
theorem c_X8_rest (G : zG) {A : zA} {m : zM} {q : Nat} {σ : zSt} {d w M : Int} (hA : zmodA A q) (hm : zMR q m σ) (hσ : zStok σ) (hd : zi32 d) (hw : zi32 w) (hM : zi32 M) : zMet G k_X8_rest [vr q, vi d, vi w, vi M] A m (zpi A (fun r m' => m = m' ∧ r = sp_rest σ d w M)) := by
  obtain ⟨⟨hO0, f0, f1, f2, f3, f4, f5, f6, f7, f8, f9, f10, f11, f12, f16, f24, f25⟩, ⟨g1, g2, g3⟩, ⟨g4, g5, g6, g7, g8, g9⟩, ⟨g10, g11, g12, g13⟩, g14, g15, g16⟩ := id hA
  unfold zi32 at hd hw hM
  refine zMet.of RX8 rfl (by decide +kernel) (Nat.le_of_ble_eq_true rfl) [some (vr q), some (vi d), some (vi w), some (vi M), none, none, none, none, none] rfl (fun E hG X hQ hNm => ?_)
  subst hG
  have tail : ∀ o : Int, (o = 0 ∨ o = 1) → (o = 1 ↔ (zin w 0 3 ∧ zin M 2 1000000)) → zW E (0, 0) A m 33 [some (vr q), some (vi d), some (vi w), some (vi M), none, none, none, none, none] [vi o, vi d, vr q] := by
    intro o ho hoo
    refine z_callVi X (As := [_, _]) dX8_rest_33 m_X8_bars i_X8_bars l_X8_161 (c_X8_bars (zg E) hA hm hσ hd ho) (by first | assumption | exact zbigA.o (by assumption)) rfl rfl rfl (Nat.le_of_ble_eq_true rfl) ⟨Nat.le_of_ble_eq_true rfl, Nat.le_of_ble_eq_true rfl⟩ ⟨Nat.le_of_ble_eq_true rfl, Nat.le_of_ble_eq_true rfl⟩ ⟨rfl, rfl⟩ (fun r1 m1 hm1 => ?_)
    obtain ⟨rfl, hr⟩ := hm1
    have hb := zbar_bd σ d o
    rw [← hr] at hb
    refine z_istore X dX8_rest_36 (fun y => [_, _, _, _, some (vi y), _, _, _, _]) (by decide) (fun _ => rfl) (fun p hp => ?_)
    obtain rfl : p = r1 := by omega
    refine z_iload X dX8_rest_38 rfl ?_
    refine z_if_ge X dX8_rest_40 46 (by decide) (by omega) (fun h40 => ?_) (fun h40 => ?_)
    · obtain ⟨hd7, hw3, hM2, v, gv, hv⟩ := zbar_yes (d := d) (o := o) (f := fun v => v % M) hm hoo (by omega)
      obtain ⟨k, rfl⟩ : ∃ k : Nat, d = (k : Int) := ⟨d.toNat, by omega⟩
      obtain ⟨t, rfl⟩ : ∃ t : Nat, w = (t : Int) := ⟨w.toNat, by omega⟩
      rw [Int.toNat_natCast, Int.toNat_natCast] at gv
      obtain ⟨n, ⟨n1, n2⟩, n3, n4, n5⟩ := gv
      refine z_iconst X dX8_rest_46 ?_
      refine z_iload_n X dX8_rest_47 rfl ?_
      refine z_imul X dX8_rest_48 ?_
      refine z_iload_n X dX8_rest_49 rfl ?_
      refine z_iadd X dX8_rest_50 ?_
      refine z_istore X dX8_rest_51 (fun y => [_, _, _, _, _, some (vi y), _, _, _]) (by decide) (fun _ => rfl) (fun s hsx => ?_)
      obtain rfl : s = ((4 * k + t : Nat) : Int) := by omega
      refine z_lconst X dX8_rest_53 0 rfl ?_
      refine z_lstore X dX8_rest_54 (fun y => [_, _, _, _, _, _, some (vl y), _, _]) (by decide) (fun _ => rfl) (fun x6_54 hx6_54 => ?_)
      subst hx6_54
      refine z_aload_n X dX8_rest_56 rfl ?_
      refine z_getR X dX8_rest_57 f_X8_14 rfl (by first | assumption | exact zbigA.o (by assumption)) (by assumption) ?_
      refine z_iload X dX8_rest_60 rfl ?_
      refine z_iald X (4 * k + t) dX8_rest_62 (by omega) (by assumption) (by omega) (by omega) ?_
      refine z_iconst X dX8_rest_63 ?_
      refine z_isub X dX8_rest_64 ?_
      refine z_istore X dX8_rest_65 (fun y => [_, _, _, _, _, _, _, _, some (vi y)]) (by decide) (fun _ => rfl) (fun x8 hx8 => ?_)
      obtain rfl : x8 = (n : Int) - 1 := by omega
      refine zl8_rest X hA (by omega) n2 (by omega) ?_ n 0 (by omega) (by simp [zsum])
      have hz := zsum_nonneg (b := 4294967296) (n := n) (by omega) (fun i _ => (zwd_bd m q (4 * k + t) i).1)
      obtain ⟨y, hy⟩ : ∃ y, y = zsum 4294967296 (zwd m q (4 * k + t)) n := ⟨_, rfl⟩
      rw [← hy] at n4 hz ⊢
      have hw0 := Int.emod_nonneg y (by omega : M ≠ 0)
      have hw1 := Int.emod_lt_of_pos y (by omega : 0 < M)
      refine z_aload_n X dX8_rest_108 rfl ?_
      refine z_getR X dX8_rest_109 f_X8_17 rfl (by first | assumption | exact zbigA.o (by assumption)) (by assumption) ?_
      refine z_iload X dX8_rest_112 rfl ?_
      refine z_bald X (4 * k + t) dX8_rest_114 (by omega) (by assumption) (by omega) (by omega) ?_
      refine z_if_eq X dX8_rest_115 133 (by decide) (by omega) (fun h115 => ?_) (fun h115 => ?_)
      · refine z_lload X dX8_rest_133 rfl ?_
        refine z_l2i X dX8_rest_135 ?_
        refine z_ireturn (st := []) X rfl hQ dX8_rest_136 ⟨rfl, _, rfl, ?_⟩
        refine ⟨rfl, Eq.trans ?_ hv.symm⟩
        first
          | (rw [show v = y by omega]; done)
          | (rw [show v = -y by omega, zmod_neg (by omega), if_neg (by omega)]; done)
          | (rw [show v = -y by omega, zmod_neg (by omega), if_pos (by omega)]; done)
      · refine z_lload X dX8_rest_118 rfl ?_
        refine z_lconst X dX8_rest_120 0 rfl ?_
        refine z_lcmp_le X dX8_rest_121 dX8_rest_122 133 (by decide) (by omega) (by omega) (fun h121 => ?_) (fun h121 => ?_)
        · refine z_lload X dX8_rest_133 rfl ?_
          refine z_l2i X dX8_rest_135 ?_
          refine z_ireturn (st := []) X rfl hQ dX8_rest_136 ⟨rfl, _, rfl, ?_⟩
          refine ⟨rfl, Eq.trans ?_ hv.symm⟩
          first
            | (rw [show v = y by omega]; done)
            | (rw [show v = -y by omega, zmod_neg (by omega), if_neg (by omega)]; done)
            | (rw [show v = -y by omega, zmod_neg (by omega), if_pos (by omega)]; done)
        · refine z_iload_n X dX8_rest_125 rfl ?_
          refine z_i2l X dX8_rest_126 (by omega) ?_
          refine z_lload X dX8_rest_127 rfl ?_
          refine z_lsub X dX8_rest_129 ?_
          refine z_goto X dX8_rest_130 135 (by decide) ?_
          refine z_l2i X dX8_rest_135 ?_
          refine z_ireturn (st := []) X rfl hQ dX8_rest_136 ⟨rfl, _, rfl, ?_⟩
          refine ⟨rfl, Eq.trans ?_ hv.symm⟩
          first
            | (rw [show v = y by omega]; done)
            | (rw [show v = -y by omega, zmod_neg (by omega), if_neg (by omega)]; done)
            | (rw [show v = -y by omega, zmod_neg (by omega), if_pos (by omega)]; done)
    · refine z_iload X dX8_rest_43 rfl ?_
      refine z_ireturn (st := []) X rfl hQ dX8_rest_45 ⟨rfl, _, rfl, ?_⟩
      exact ⟨rfl, hr.trans (zbar_no (σ := σ) (o := o) hoo (by omega)).symm⟩
  refine z_aload_n X dX8_rest_0 rfl ?_
  refine z_iload_n X dX8_rest_1 rfl ?_
  refine z_iload_n X dX8_rest_2 rfl ?_
  refine z_i2l X dX8_rest_3 (by omega) ?_
  refine z_lconst X dX8_rest_4 0 rfl ?_
  refine z_ldc2 X dX8_rest_5 q_X8_94 (3) (by decide) ?_
  refine z_callSi X (As := [_, _, _]) dX8_rest_8 m_X8_in s_X8_in l_X8_86 (c_X8_in (zg E) (by omega) (by omega) (by omega)) rfl rfl (Nat.le_of_ble_eq_true rfl) ⟨Nat.le_of_ble_eq_true rfl, Nat.le_of_ble_eq_true rfl⟩ ⟨Nat.le_of_ble_eq_true rfl, Nat.le_of_ble_eq_true rfl⟩ ⟨rfl, rfl⟩ (fun o1 m1 hm1 => ?_)
  obtain ⟨rfl, hr1⟩ := hm1
  refine z_if_eq X dX8_rest_11 32 (by decide) (by omega) (fun h11 => ?_) (fun h11 => ?_)
  · refine z_iconst X dX8_rest_32 ?_
    exact tail _ (by omega) (by omega)
  · refine z_iload_n X dX8_rest_14 rfl ?_
    refine z_i2l X dX8_rest_15 (by omega) ?_
    refine z_ldc2 X dX8_rest_16 q_X8_159 (2) (by decide) ?_
    refine z_ldc2 X dX8_rest_19 q_X8_165 (1000000) (by decide) ?_
    refine z_callSi X (As := [_, _, _]) dX8_rest_22 m_X8_in s_X8_in l_X8_86 (c_X8_in (zg E) (by omega) (by omega) (by omega)) rfl rfl (Nat.le_of_ble_eq_true rfl) ⟨Nat.le_of_ble_eq_true rfl, Nat.le_of_ble_eq_true rfl⟩ ⟨Nat.le_of_ble_eq_true rfl, Nat.le_of_ble_eq_true rfl⟩ ⟨rfl, rfl⟩ (fun o2 m1 hm1 => ?_)
    obtain ⟨rfl, hr2⟩ := hm1
    refine z_if_eq X dX8_rest_25 32 (by decide) (by omega) (fun h25 => ?_) (fun h25 => ?_)
    · refine z_iconst X dX8_rest_32 ?_
      exact tail _ (by omega) (by omega)
    · refine z_iconst X dX8_rest_28 ?_
      refine z_goto X dX8_rest_29 33 (by decide) ?_
      exact tail _ (by omega) (by omega)
theorem c_X8_word (G : zG) {A : zA} {m : zM} {q : Nat} {σ : zSt} {d w k0 : Int} (hA : zmodA A q) (hm : zMR q m σ) (hσ : zStok σ) (hd : zi32 d) (hw : zi32 w) (hk : zi32 k0) : zMet G k_X8_word [vr q, vi d, vi w, vi k0] A m (zpi A (fun r m' => m = m' ∧ r = sp_word σ d w k0)) := by
  obtain ⟨⟨hO0, f0, f1, f2, f3, f4, f5, f6, f7, f8, f9, f10, f11, f12, f16, f24, f25⟩, ⟨g1, g2, g3⟩, ⟨g4, g5, g6, g7, g8, g9⟩, ⟨g10, g11, g12, g13⟩, g14, g15, g16⟩ := id hA
  unfold zi32 at hd hw hk
  refine zMet.of RX8 rfl (by decide +kernel) (Nat.le_of_ble_eq_true rfl) [some (vr q), some (vi d), some (vi w), some (vi k0), none, none] rfl (fun E hG X hQ hNm => ?_)
  subst hG
  have tail : ∀ o : Int, (o = 0 ∨ o = 1) → (o = 1 ↔ (zin w 0 3 ∧ 0 ≤ k0)) → zW E (0, 0) A m 23 [some (vr q), some (vi d), some (vi w), some (vi k0), none, none] [vi o, vi d, vr q] := by
    intro o ho hoo
    refine z_callVi X (As := [_, _]) dX8_word_23 m_X8_bars i_X8_bars l_X8_161 (c_X8_bars (zg E) hA hm hσ hd ho) (by first | assumption | exact zbigA.o (by assumption)) rfl rfl rfl (Nat.le_of_ble_eq_true rfl) ⟨Nat.le_of_ble_eq_true rfl, Nat.le_of_ble_eq_true rfl⟩ ⟨Nat.le_of_ble_eq_true rfl, Nat.le_of_ble_eq_true rfl⟩ ⟨rfl, rfl⟩ (fun r1 m1 hm1 => ?_)
    obtain ⟨rfl, hr⟩ := hm1
    have hb := zbar_bd σ d o
    rw [← hr] at hb
    refine z_istore X dX8_word_26 (fun y => [_, _, _, _, some (vi y), _]) (by decide) (fun _ => rfl) (fun p hp => ?_)
    obtain rfl : p = r1 := by omega
    refine z_iload X dX8_word_28 rfl ?_
    refine z_if_ge X dX8_word_30 36 (by decide) (by omega) (fun h30 => ?_) (fun h30 => ?_)
    · obtain ⟨hd7, hw3, hk2, v, gv, hv⟩ := zbar_yes (d := d) (o := o) (f := fun v => (v.natAbs : Int) / ((2 ^ (16 * k0.toNat) : Nat) : Int) % 65536) hm hoo (by omega)
      obtain ⟨k, rfl⟩ : ∃ k : Nat, d = (k : Int) := ⟨d.toNat, by omega⟩
      obtain ⟨t, rfl⟩ : ∃ t : Nat, w = (t : Int) := ⟨w.toNat, by omega⟩
      rw [Int.toNat_natCast, Int.toNat_natCast] at gv
      obtain ⟨n, ⟨n1, n2⟩, n3, n4, n5⟩ := gv
      obtain ⟨K, rfl⟩ : ∃ K : Nat, k0 = (K : Int) := ⟨k0.toNat, by omega⟩
      rw [Int.toNat_natCast] at hv
      have key : (v.natAbs : Int) / ((2 ^ (16 * K) : Nat) : Int) = zsum 4294967296 (fun j => zwd m q (4 * k + t) (K / 2 + j)) (n - K / 2) / ((2 ^ (16 * (K % 2)) : Nat) : Int) := by
        rw [show 16 * K = 32 * (K / 2) + 16 * (K % 2) by omega, Nat.pow_add, Int.natCast_mul, ← Int.ediv_ediv_of_nonneg (by have := zP2 (32 * (K / 2)); omega), ← zB32]
        by_cases hPn : K / 2 ≤ n
        · rw [n4, zsum_div (by omega) (fun i _ => zwd_bd m q (4 * k + t) i) hPn]
        · have h1 : zsum 4294967296 (fun j => zwd m q (4 * k + t) (K / 2 + j)) (n - K / 2) = 0 := by rw [show n - K / 2 = 0 by omega]; rfl
          have h4 := zsum_lt (b := 4294967296) (f := zwd m q (4 * k + t)) (n := n) (by omega) (fun i _ => zwd_bd m q (4 * k + t) i)
          have h5 : (4294967296 : Int) ^ n ≤ 4294967296 ^ (K / 2) := zpow_le (by omega) (by omega)
          have h6 : (v.natAbs : Int) / 4294967296 ^ (K / 2) = 0 := Int.ediv_eq_zero_of_lt (by omega) (by omega)
          rw [h1, h6]
      refine z_iconst X dX8_word_36 ?_
      refine z_iload_n X dX8_word_37 rfl ?_
      refine z_imul X dX8_word_38 ?_
      refine z_iload_n X dX8_word_39 rfl ?_
      refine z_iadd X dX8_word_40 ?_
      refine z_istore X dX8_word_41 (fun y => [_, _, _, _, _, some (vi y)]) (by decide) (fun _ => rfl) (fun s hsx => ?_)
      obtain rfl : s = ((4 * k + t : Nat) : Int) := by omega
      refine z_iload_n X dX8_word_43 rfl ?_
      refine z_iconst X dX8_word_44 ?_
      refine z_idiv X dX8_word_45 (by omega) (by omega) ?_
      refine z_aload_n X dX8_word_46 rfl ?_
      refine z_getR X dX8_word_47 f_X8_14 rfl (by first | assumption | exact zbigA.o (by assumption)) (by assumption) ?_
      refine z_iload X dX8_word_50 rfl ?_
      refine z_iald X (4 * k + t) dX8_word_52 (by omega) (by assumption) (by omega) (by omega) ?_
      refine z_icmp_ge X dX8_word_53 84 (by decide) (by omega) (by omega) (fun h53 => ?_) (fun h53 => ?_)
      · refine z_iconst X dX8_word_84 ?_
        refine z_ireturn (st := []) X rfl hQ dX8_word_85 ⟨rfl, _, rfl, ?_⟩
        refine ⟨rfl, Eq.trans ?_ hv.symm⟩
        show 0 = (v.natAbs : Int) / ((2 ^ (16 * K) : Nat) : Int) % 65536
        rw [key, show n - K / 2 = 0 by omega]
        simp [zsum]
      · refine z_aload_n X dX8_word_56 rfl ?_
        refine z_getR X dX8_word_57 f_X8_8 rfl (by first | assumption | exact zbigA.o (by assumption)) (by assumption) ?_
        refine z_sipush X dX8_word_60 (by decide) ?_
        refine z_iload X dX8_word_63 rfl ?_
        refine z_imul X dX8_word_65 ?_
        refine z_iload_n X dX8_word_66 rfl ?_
        refine z_iconst X dX8_word_67 ?_
        refine z_idiv X dX8_word_68 (by omega) (by omega) ?_
        refine z_iadd X dX8_word_69 ?_
        refine z_iald X (1200 * (4 * k + t) + K / 2) dX8_word_70 (by omega) (by assumption) (by omega) (by omega) ?_
        have wb := zwd_bd m q (4 * k + t) (K / 2)
        have e9 : vi (m (q + 1) (1200 * (4 * k + t) + K / 2)) = vi (zwd m q (4 * k + t) (K / 2)) := by unfold vi zwd; rw [zI_mod _ _ (Int.emod_emod_of_dvd _ (Int.dvd_refl 4294967296)).symm]
        rw [e9]
        refine z_bipush X dX8_word_71 (by decide) ?_
        refine z_iload_n X dX8_word_73 rfl ?_
        refine z_iconst X dX8_word_74 ?_
        refine z_irem X dX8_word_75 (by omega) (by omega) ?_
        refine z_imul X dX8_word_76 ?_
        refine z_iushr X dX8_word_77 (16 * (K % 2)) (((2 ^ (16 * (K % 2)) : Nat) : Int)) (by omega) (by omega) rfl (by omega) ?_
        refine z_ldc X dX8_word_78 q_X8_167 (65535) (by decide) ?_
        refine z_iand X dX8_word_80 16 (by omega) (by decide) 65536 (by decide) ?_
        refine z_goto X dX8_word_81 85 (by decide) ?_
        refine z_ireturn (st := []) X rfl hQ dX8_word_85 ⟨rfl, _, rfl, ?_⟩
        refine ⟨rfl, Eq.trans ?_ hv.symm⟩
        show _ = (v.natAbs : Int) / ((2 ^ (16 * K) : Nat) : Int) % 65536
        rw [key, zsum_tail (by omega)]
        rcases (show K % 2 = 0 ∨ K % 2 = 1 by omega) with h | h
        · rw [h]; simp; omega
        · rw [h]; simp; omega
    · refine z_iload X dX8_word_33 rfl ?_
      refine z_ireturn (st := []) X rfl hQ dX8_word_35 ⟨rfl, _, rfl, ?_⟩
      exact ⟨rfl, hr.trans (zbar_no (σ := σ) (o := o) hoo (by omega)).symm⟩
  refine z_aload_n X dX8_word_0 rfl ?_
  refine z_iload_n X dX8_word_1 rfl ?_
  refine z_iload_n X dX8_word_2 rfl ?_
  refine z_i2l X dX8_word_3 (by omega) ?_
  refine z_lconst X dX8_word_4 0 rfl ?_
  refine z_ldc2 X dX8_word_5 q_X8_94 (3) (by decide) ?_
  refine z_callSi X (As := [_, _, _]) dX8_word_8 m_X8_in s_X8_in l_X8_86 (c_X8_in (zg E) (by omega) (by omega) (by omega)) rfl rfl (Nat.le_of_ble_eq_true rfl) ⟨Nat.le_of_ble_eq_true rfl, Nat.le_of_ble_eq_true rfl⟩ ⟨Nat.le_of_ble_eq_true rfl, Nat.le_of_ble_eq_true rfl⟩ ⟨rfl, rfl⟩ (fun o1 m1 hm1 => ?_)
  obtain ⟨rfl, hr1⟩ := hm1
  refine z_if_eq X dX8_word_11 22 (by decide) (by omega) (fun h11 => ?_) (fun h11 => ?_)
  · refine z_iconst X dX8_word_22 ?_
    exact tail _ (by omega) (by omega)
  · refine z_iload_n X dX8_word_14 rfl ?_
    refine z_if_lt X dX8_word_15 22 (by decide) (by omega) (fun h15 => ?_) (fun h15 => ?_)
    · refine z_iconst X dX8_word_22 ?_
      exact tail _ (by omega) (by omega)
    · refine z_iconst X dX8_word_18 ?_
      refine z_goto X dX8_word_19 23 (by decide) ?_
      exact tail _ (by omega) (by omega)
theorem zl8_same {E : zCx} (X : zOK E cX8_same RX8 5 (some .int) k_X8_same.2.2.2.2) {A : zA} {m : zM} {q k l : Nat} {x y : zq4} (hA : zmodA A q) (hk : k < 8) (hl : l < 8) (hx : zsp4 m q (4 * k) x) (hy : zsp4 m q (4 * l) y) {P : Int → zM → Prop} (hQ : zRet E (zpi A P) 0 0) (hP : P (if x = y then 1 else 0) m) : ∀ (r i : Nat) (b : Int), i + r = 4 → ((b = 1 ∧ (1 ≤ i → x.1 = y.1) ∧ (2 ≤ i → x.2.1 = y.2.1) ∧ (3 ≤ i → x.2.2.1 = y.2.2.1) ∧ (4 ≤ i → x.2.2.2 = y.2.2.2)) ∨ (b = 0 ∧ x ≠ y)) → zW E (0, 0) A m 46 [some (vr q), some (vi (k : Int)), some (vi (l : Int)), some (vi b), some (vi (i : Int))] [] := by
  obtain ⟨⟨hO0, f0, f1, f2, f3, f4, f5, f6, f7, f8, f9, f10, f11, f12, f16, f24, f25⟩, ⟨g1, g2, g3⟩, ⟨g4, g5, g6, g7, g8, g9⟩, ⟨g10, g11, g12, g13⟩, g14, g15, g16⟩ := id hA
  have at4 : ∀ i, i < 4 → ∃ v w, zsl m q (4 * k + i) v ∧ zsl m q (4 * l + i) w ∧ (v ≠ w → x ≠ y) ∧ (i = 0 → v = w → x.1 = y.1) ∧ (i = 1 → v = w → x.2.1 = y.2.1) ∧ (i = 2 → v = w → x.2.2.1 = y.2.2.1) ∧ (i = 3 → v = w → x.2.2.2 = y.2.2.2) := fun i hi => by
    rcases (show i = 0 ∨ i = 1 ∨ i = 2 ∨ i = 3 by omega) with rfl | rfl | rfl | rfl
    · exact ⟨x.1, y.1, hx.1, hy.1, fun h e => h (by rw [e]), fun _ h => h, fun h => absurd h (by omega), fun h => absurd h (by omega), fun h => absurd h (by omega)⟩
    · exact ⟨x.2.1, y.2.1, hx.2.1, hy.2.1, fun h e => h (by rw [e]), fun h => absurd h (by omega), fun _ h => h, fun h => absurd h (by omega), fun h => absurd h (by omega)⟩
    · exact ⟨x.2.2.1, y.2.2.1, hx.2.2.1, hy.2.2.1, fun h e => h (by rw [e]), fun h => absurd h (by omega), fun h => absurd h (by omega), fun _ h => h, fun h => absurd h (by omega)⟩
    · exact ⟨x.2.2.2, y.2.2.2, hx.2.2.2, hy.2.2.2, fun h e => h (by rw [e]), fun h => absurd h (by omega), fun h => absurd h (by omega), fun h => absurd h (by omega), fun _ h => h⟩
  have fin : ∀ (i : Nat) (b : Int), (i = 4 ∨ b = 0) → ((b = 1 ∧ (1 ≤ i → x.1 = y.1) ∧ (2 ≤ i → x.2.1 = y.2.1) ∧ (3 ≤ i → x.2.2.1 = y.2.2.1) ∧ (4 ≤ i → x.2.2.2 = y.2.2.2)) ∨ (b = 0 ∧ x ≠ y)) → zW E (0, 0) A m 112 [some (vr q), some (vi (k : Int)), some (vi (l : Int)), some (vi b), some (vi (i : Int))] [] := by
    intro i b hi hb
    have he : (b = 1 ∧ x = y) ∨ (b = 0 ∧ x ≠ y) := by
      rcases hb with ⟨h, h1, h2, h3, h4⟩ | h
      · have hi4 : i = 4 := by omega
        refine Or.inl ⟨h, ?_⟩
        obtain ⟨x1, x2, x3, x4⟩ := x
        obtain ⟨y1, y2, y3, y4⟩ := y
        have e1 : x1 = y1 := h1 (by omega)
        have e2 : x2 = y2 := h2 (by omega)
        have e3 : x3 = y3 := h3 (by omega)
        have e4 : x4 = y4 := h4 (by omega)
        rw [e1, e2, e3, e4]
      · exact Or.inr h
    have hb01 : b = 0 ∨ b = 1 := by rcases he with h | h <;> omega
    refine z_iload_n X dX8_same_112 rfl ?_
    refine z_if_eq X dX8_same_113 120 (by decide) (by omega) (fun h113 => ?_) (fun h113 => ?_)
    · refine z_iconst X dX8_same_120 ?_
      refine z_ireturn (st := []) X rfl hQ dX8_same_121 ⟨rfl, _, rfl, ?_⟩
      rcases he with h | h
      · omega
      · rw [if_neg h.2] at hP; exact hP
    · refine z_iconst X dX8_same_116 ?_
      refine z_goto X dX8_same_117 121 (by decide) ?_
      refine z_ireturn (st := []) X rfl hQ dX8_same_121 ⟨rfl, _, rfl, ?_⟩
      rcases he with h | h
      · rw [if_pos h.2] at hP; exact hP
      · omega
  intro r
  induction r with
  | zero =>
    intro i b hi hb
    refine z_iload X dX8_same_46 rfl ?_
    refine z_iconst X dX8_same_48 ?_
    refine z_icmp_ge X dX8_same_49 112 (by decide) (by omega) (by omega) (fun h49 => ?_) (fun h49 => ?_)
    · exact fin i b (by omega) hb
    · omega
  | succ r ih =>
    intro i b hi hb
    obtain ⟨v, w, a1, a2, a3, a4, a5, a6, a7⟩ := at4 i (by omega)
    obtain ⟨nv, v1, v2, v3, v4⟩ := a1.n0
    obtain ⟨nw, w1, w2, w3, w4⟩ := a2.n0
    have hb01 : b = 0 ∨ b = 1 := by rcases hb with h | h <;> omega
    refine z_iload X dX8_same_46 rfl ?_
    refine z_iconst X dX8_same_48 ?_
    refine z_icmp_ge X dX8_same_49 112 (by decide) (by omega) (by omega) (fun h49 => ?_) (fun h49 => ?_)
    · exact absurd h49 (by omega)
    · refine z_iload_n X dX8_same_52 rfl ?_
      refine z_if_eq X dX8_same_53 112 (by decide) (by omega) (fun h53 => ?_) (fun h53 => ?_)
      · exact fin i b (by omega) hb
      · refine z_aload_n X dX8_same_56 rfl ?_
        refine z_iconst X dX8_same_57 ?_
        refine z_iload_n X dX8_same_58 rfl ?_
        refine z_imul X dX8_same_59 ?_
        refine z_iload X dX8_same_60 rfl ?_
        refine z_iadd X dX8_same_62 ?_
        refine z_iconst X dX8_same_63 ?_
        refine z_iload_n X dX8_same_64 rfl ?_
        refine z_imul X dX8_same_65 ?_
        refine z_iload X dX8_same_66 rfl ?_
        refine z_iadd X dX8_same_68 ?_
        refine z_callVi X (As := [_, _]) dX8_same_69 m_X8_order i_X8_order l_X8_74 (c_X8_order (zg E) (a := 4 * k + i) (b := 4 * l + i) hA (by omega) (by omega) (by omega) (by omega) a1 a2) (by first | assumption | exact zbigA.o (by assumption)) rfl rfl rfl (Nat.le_of_ble_eq_true rfl) ⟨Nat.le_of_ble_eq_true rfl, Nat.le_of_ble_eq_true rfl⟩ ⟨Nat.le_of_ble_eq_true rfl, Nat.le_of_ble_eq_true rfl⟩ ⟨rfl, rfl⟩ (fun r1 m1 hm1 => ?_)
        obtain ⟨rfl, hr1, hr2⟩ := hm1
        refine z_if_ne X dX8_same_72 104 (by decide) (by omega) (fun h72 => ?_) (fun h72 => ?_)
        · refine z_iconst X dX8_same_104 ?_
          refine z_istore_n X dX8_same_105 (fun y => [_, _, _, some (vi y), _]) (by decide) (fun _ => rfl) (fun b2 hb2 => ?_)
          refine z_iinc X dX8_same_106 rfl (fun y => [_, _, _, _, some (vi y)]) (fun _ => rfl) (fun z hz => ?_)
          obtain rfl : z = ((i + 1 : Nat) : Int) := by omega
          refine z_goto X dX8_same_109 46 (by decide) ?_
          refine ih (i + 1) b2 (by omega) ?_
          by_cases hvw : v = w
          · rcases hb with ⟨g0, g1, g2, g3, g4⟩ | g
            · refine Or.inl ⟨by omega, fun h => ?_, fun h => ?_, fun h => ?_, fun h => ?_⟩
              · by_cases hi0 : i = 0
                · exact a4 hi0 hvw
                · exact g1 (by omega)
              · by_cases hi0 : i = 1
                · exact a5 hi0 hvw
                · exact g2 (by omega)
              · by_cases hi0 : i = 2
                · exact a6 hi0 hvw
                · exact g3 (by omega)
              · by_cases hi0 : i = 3
                · exact a7 hi0 hvw
                · exact g4 (by omega)
            · omega
          · exact Or.inr ⟨by omega, a3 hvw⟩
        · refine z_aload_n X dX8_same_75 rfl ?_
          refine z_getR X dX8_same_76 f_X8_17 rfl (by first | assumption | exact zbigA.o (by assumption)) (by assumption) ?_
          refine z_iconst X dX8_same_79 ?_
          refine z_iload_n X dX8_same_80 rfl ?_
          refine z_imul X dX8_same_81 ?_
          refine z_iload X dX8_same_82 rfl ?_
          refine z_iadd X dX8_same_84 ?_
          refine z_bald X (4 * k + i) dX8_same_85 (by omega) (by assumption) (by omega) (by omega) ?_
          refine z_aload_n X dX8_same_86 rfl ?_
          refine z_getR X dX8_same_87 f_X8_17 rfl (by first | assumption | exact zbigA.o (by assumption)) (by assumption) ?_
          refine z_iconst X dX8_same_90 ?_
          refine z_iload_n X dX8_same_91 rfl ?_
          refine z_imul X dX8_same_92 ?_
          refine z_iload X dX8_same_93 rfl ?_
          refine z_iadd X dX8_same_95 ?_
          refine z_bald X (4 * l + i) dX8_same_96 (by omega) (by assumption) (by omega) (by omega) ?_
          refine z_icmp_ne X dX8_same_97 104 (by decide) (by omega) (by omega) (fun h97 => ?_) (fun h97 => ?_)
          · refine z_iconst X dX8_same_104 ?_
            refine z_istore_n X dX8_same_105 (fun y => [_, _, _, some (vi y), _]) (by decide) (fun _ => rfl) (fun b2 hb2 => ?_)
            refine z_iinc X dX8_same_106 rfl (fun y => [_, _, _, _, some (vi y)]) (fun _ => rfl) (fun z hz => ?_)
            obtain rfl : z = ((i + 1 : Nat) : Int) := by omega
            refine z_goto X dX8_same_109 46 (by decide) ?_
            refine ih (i + 1) b2 (by omega) ?_
            by_cases hvw : v = w
            · rcases hb with ⟨g0, g1, g2, g3, g4⟩ | g
              · refine Or.inl ⟨by omega, fun h => ?_, fun h => ?_, fun h => ?_, fun h => ?_⟩
                · by_cases hi0 : i = 0
                  · exact a4 hi0 hvw
                  · exact g1 (by omega)
                · by_cases hi0 : i = 1
                  · exact a5 hi0 hvw
                  · exact g2 (by omega)
                · by_cases hi0 : i = 2
                  · exact a6 hi0 hvw
                  · exact g3 (by omega)
                · by_cases hi0 : i = 3
                  · exact a7 hi0 hvw
                  · exact g4 (by omega)
              · omega
            · exact Or.inr ⟨by omega, a3 hvw⟩
          · refine z_iconst X dX8_same_100 ?_
            refine z_goto X dX8_same_101 105 (by decide) ?_
            refine z_istore_n X dX8_same_105 (fun y => [_, _, _, some (vi y), _]) (by decide) (fun _ => rfl) (fun b2 hb2 => ?_)
            refine z_iinc X dX8_same_106 rfl (fun y => [_, _, _, _, some (vi y)]) (fun _ => rfl) (fun z hz => ?_)
            obtain rfl : z = ((i + 1 : Nat) : Int) := by omega
            refine z_goto X dX8_same_109 46 (by decide) ?_
            refine ih (i + 1) b2 (by omega) ?_
            by_cases hvw : v = w
            · rcases hb with ⟨g0, g1, g2, g3, g4⟩ | g
              · refine Or.inl ⟨by omega, fun h => ?_, fun h => ?_, fun h => ?_, fun h => ?_⟩
                · by_cases hi0 : i = 0
                  · exact a4 hi0 hvw
                  · exact g1 (by omega)
                · by_cases hi0 : i = 1
                  · exact a5 hi0 hvw
                  · exact g2 (by omega)
                · by_cases hi0 : i = 2
                  · exact a6 hi0 hvw
                  · exact g3 (by omega)
                · by_cases hi0 : i = 3
                  · exact a7 hi0 hvw
                  · exact g4 (by omega)
              · omega
            · exact Or.inr ⟨by omega, a3 hvw⟩
theorem c_X8_same (G : zG) {A : zA} {m : zM} {q : Nat} {σ : zSt} {d e : Int} (hA : zmodA A q) (hm : zMR q m σ) (hσ : zStok σ) (hd : zi32 d) (he : zi32 e) : zMet G k_X8_same [vr q, vi d, vi e] A m (zpi A (fun r m' => m = m' ∧ r = sp_same σ d e)) := by
  obtain ⟨⟨hO0, f0, f1, f2, f3, f4, f5, f6, f7, f8, f9, f10, f11, f12, f16, f24, f25⟩, ⟨g1, g2, g3⟩, ⟨g4, g5, g6, g7, g8, g9⟩, ⟨g10, g11, g12, g13⟩, g14, g15, g16⟩ := id hA
  unfold zi32 at hd he
  have bd : ∀ k, k < 8 → -6 ≤ m (q + 7) k ∧ m (q + 7) k < 6 := fun k hk => by
    rcases (hm.2.1 k hk).h7 with ⟨h, e⟩ | ⟨y, e, h1, _⟩
    · omega
    · have := (hσ.2.1 k y hk e).1
      omega
  refine zMet.of RX8 rfl (by decide +kernel) (Nat.le_of_ble_eq_true rfl) [some (vr q), some (vi d), some (vi e), none, none] rfl (fun E hG X hQ hNm => ?_)
  subst hG
  refine z_iload_n X dX8_same_0 rfl ?_
  refine z_callSi X (As := [_]) dX8_same_1 m_X8_isDrawer s_X8_isDrawer l_X8_150 (c_X8_isDrawer (zg E) hd) rfl rfl (Nat.le_of_ble_eq_true rfl) ⟨Nat.le_of_ble_eq_true rfl, Nat.le_of_ble_eq_true rfl⟩ ⟨Nat.le_of_ble_eq_true rfl, Nat.le_of_ble_eq_true rfl⟩ ⟨rfl, rfl⟩ (fun r1 m1 hm1 => ?_)
  obtain ⟨rfl, hr1⟩ := hm1
  refine z_if_eq X dX8_same_4 14 (by decide) (by omega) (fun h4 => ?_) (fun h4 => ?_)
  · refine z_iconst X dX8_same_14 ?_
    refine z_ireturn (st := []) X rfl hQ dX8_same_15 ⟨rfl, _, rfl, ?_⟩
    refine ⟨rfl, ?_⟩
    unfold sp_same
    rw [if_pos (by omega)]
  · refine z_iload_n X dX8_same_7 rfl ?_
    refine z_callSi X (As := [_]) dX8_same_8 m_X8_isDrawer s_X8_isDrawer l_X8_150 (c_X8_isDrawer (zg E) he) rfl rfl (Nat.le_of_ble_eq_true rfl) ⟨Nat.le_of_ble_eq_true rfl, Nat.le_of_ble_eq_true rfl⟩ ⟨Nat.le_of_ble_eq_true rfl, Nat.le_of_ble_eq_true rfl⟩ ⟨rfl, rfl⟩ (fun r2 m1 hm1 => ?_)
    obtain ⟨rfl, hr2⟩ := hm1
    refine z_if_ne X dX8_same_11 16 (by decide) (by omega) (fun h11 => ?_) (fun h11 => ?_)
    · obtain ⟨k, rfl⟩ : ∃ k : Nat, d = (k : Int) := ⟨d.toNat, by omega⟩
      obtain ⟨l, rfl⟩ : ∃ l : Nat, e = (l : Int) := ⟨e.toNat, by omega⟩
      have hkr := hm.2.1 k (by omega)
      have hlr := hm.2.1 l (by omega)
      have bk := bd k (by omega)
      have bl := bd l (by omega)
      refine z_aload_n X dX8_same_16 rfl ?_
      refine z_getR X dX8_same_17 f_X8_30 rfl (by first | assumption | exact zbigA.o (by assumption)) (by assumption) ?_
      refine z_iload_n X dX8_same_20 rfl ?_
      refine z_iald X (k) dX8_same_21 (by omega) (by assumption) (by omega) (by omega) ?_
      refine z_bipush X dX8_same_22 (by decide) ?_
      refine z_icmp_eq X dX8_same_24 38 (by decide) (by omega) (by omega) (fun h24 => ?_) (fun h24 => ?_)
      · refine z_bipush X dX8_same_38 (by decide) ?_
        refine z_ireturn (st := []) X rfl hQ dX8_same_40 ⟨rfl, _, rfl, ?_⟩
        refine ⟨rfl, ?_⟩
        unfold sp_same
        rw [if_neg (by omega), Int.toNat_natCast, Int.toNat_natCast]
        rcases hkr.h7 with ⟨_, e⟩ | ⟨y, e, h1, _⟩
        · rw [e]
        · rcases hlr.h7 with ⟨_, e'⟩ | ⟨y', e', h1', _⟩
          · rw [e, e']
          · omega
      · refine z_aload_n X dX8_same_27 rfl ?_
        refine z_getR X dX8_same_28 f_X8_30 rfl (by first | assumption | exact zbigA.o (by assumption)) (by assumption) ?_
        refine z_iload_n X dX8_same_31 rfl ?_
        refine z_iald X (l) dX8_same_32 (by omega) (by assumption) (by omega) (by omega) ?_
        refine z_bipush X dX8_same_33 (by decide) ?_
        refine z_icmp_ne X dX8_same_35 41 (by decide) (by omega) (by omega) (fun h35 => ?_) (fun h35 => ?_)
        · refine z_iconst X dX8_same_41 ?_
          refine z_istore_n X dX8_same_42 (fun y => [_, _, _, some (vi y), _]) (by decide) (fun _ => rfl) (fun x3_42 hx3_42 => ?_)
          subst hx3_42
          refine z_iconst X dX8_same_43 ?_
          refine z_istore X dX8_same_44 (fun y => [_, _, _, _, some (vi y)]) (by decide) (fun _ => rfl) (fun x4_44 hx4_44 => ?_)
          subst hx4_44
          rcases hkr.h7 with ⟨h, _⟩ | ⟨x, e, h1, _, _, xb⟩
          · exact absurd h (by omega)
          rcases hlr.h7 with ⟨h, _⟩ | ⟨y, e', h1', _, _, yb⟩
          · exact absurd h (by omega)
          have sp : sp_same σ (k : Int) (l : Int) = if x.2.2.2 = y.2.2.2 then 1 else 0 := by
            unfold sp_same
            rw [if_neg (by omega), Int.toNat_natCast, Int.toNat_natCast, e, e']
          refine zl8_same X hA (by omega) (by omega) xb yb hQ ⟨rfl, sp.symm⟩ 4 0 1 (by omega) (Or.inl ⟨rfl, fun h => absurd h (by omega), fun h => absurd h (by omega), fun h => absurd h (by omega), fun h => absurd h (by omega)⟩)
        · refine z_bipush X dX8_same_38 (by decide) ?_
          refine z_ireturn (st := []) X rfl hQ dX8_same_40 ⟨rfl, _, rfl, ?_⟩
          refine ⟨rfl, ?_⟩
          unfold sp_same
          rw [if_neg (by omega), Int.toNat_natCast, Int.toNat_natCast]
          rcases hkr.h7 with ⟨_, e⟩ | ⟨y, e, h1, _⟩
          · rw [e]
          · rcases hlr.h7 with ⟨_, e'⟩ | ⟨y', e', h1', _⟩
            · rw [e, e']
            · omega
    · refine z_iconst X dX8_same_14 ?_
      refine z_ireturn (st := []) X rfl hQ dX8_same_15 ⟨rfl, _, rfl, ?_⟩
      refine ⟨rfl, ?_⟩
      unfold sp_same
      rw [if_pos (by omega)]

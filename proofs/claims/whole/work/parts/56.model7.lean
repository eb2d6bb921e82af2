/-! The model: rule, bound, value, at; where a sum falls -/
theorem c_X8_rule (G : zG) {A : zA} {m : zM} {q : Nat} {σ : zSt} {s w x y z : Int} (hA : zmodA A q) (hm : zMR q m σ) (ho : zStok σ) (hs : zi32 s) (hw : zi32 w) (hx : zi32 x) (hy : zi32 y) (hz : zi32 z) : zMet G k_X8_rule [vr q, vi s, vi w, vi x, vi y, vi z] A m (zpi A (fun r m' => zMR q m' (sp_rule σ s w x y z).2 ∧ zmm q m m' ∧ r = (sp_rule σ s w x y z).1)) := by
  obtain ⟨⟨hO0, f0, f1, f2, f3, f4, f5, f6, f7, f8, f9, f10, f11, f12, f16, f24, f25⟩, ⟨g1, g2, g3⟩, ⟨g4, g5, g6, g7, g8, g9⟩, ⟨g10, g11, g12, g13⟩, g14, g15, g16⟩ := id hA
  unfold zi32 at hs hw hx hy hz
  have out : zin s 0 5 → (¬ zin w 0 3 ∨ ¬ zin x (-999) 999 ∨ ¬ zin y (-999) 999 ∨ ¬ zin z (-999) 999) → zMR q m (sp_rule σ s w x y z).2 ∧ zmm q m m ∧ -2 = (sp_rule σ s w x y z).1 := fun h1 h2 => by
    unfold sp_rule
    rw [if_neg (by omega), if_pos h2]
    exact ⟨hm, zmm.r, rfl⟩
  refine zMet.of RX8 rfl (by decide +kernel) (Nat.le_of_ble_eq_true rfl) [some (vr q), some (vi s), some (vi w), some (vi x), some (vi y), some (vi z)] rfl (fun E hG X hQ hNm => ?_)
  subst hG
  refine z_iload_n X dX8_rule_0 rfl ?_
  refine z_callSi X (As := [_]) dX8_rule_1 m_X8_isSum s_X8_isSum l_X8_90 (c_X8_isSum (zg E) hs) rfl rfl (Nat.le_of_ble_eq_true rfl) ⟨Nat.le_of_ble_eq_true rfl, Nat.le_of_ble_eq_true rfl⟩ ⟨Nat.le_of_ble_eq_true rfl, Nat.le_of_ble_eq_true rfl⟩ ⟨rfl, rfl⟩ (fun r1 m1 hm1 => ?_)
  obtain ⟨rfl, hr1⟩ := hm1
  refine z_if_ne X dX8_rule_4 9 (by decide) (by omega) (fun h4 => ?_) (fun h4 => ?_)
  · refine z_iload_n X dX8_rule_9 rfl ?_
    refine z_i2l X dX8_rule_10 (by omega) ?_
    refine z_lconst X dX8_rule_11 0 rfl ?_
    refine z_ldc2 X dX8_rule_12 q_X8_94 (3) (by decide) ?_
    refine z_callSi X (As := [_, _, _]) dX8_rule_15 m_X8_in s_X8_in l_X8_86 (c_X8_in (zg E) (by omega) (by omega) (by omega)) rfl rfl (Nat.le_of_ble_eq_true rfl) ⟨Nat.le_of_ble_eq_true rfl, Nat.le_of_ble_eq_true rfl⟩ ⟨Nat.le_of_ble_eq_true rfl, Nat.le_of_ble_eq_true rfl⟩ ⟨rfl, rfl⟩ (fun r2 m1 hm1 => ?_)
    obtain ⟨rfl, hr2⟩ := hm1
    refine z_if_eq X dX8_rule_18 65 (by decide) (by omega) (fun h18 => ?_) (fun h18 => ?_)
    · refine z_bipush X dX8_rule_65 (by decide) ?_
      refine z_ireturn (st := []) X rfl hQ dX8_rule_67 ⟨rfl, _, rfl, ?_⟩
      exact out (by omega) (by omega)
    · refine z_iload_n X dX8_rule_21 rfl ?_
      refine z_i2l X dX8_rule_22 (by omega) ?_
      refine z_ldc2 X dX8_rule_23 q_X8_96 (-999) (by decide) ?_
      refine z_ldc2 X dX8_rule_26 q_X8_98 (999) (by decide) ?_
      refine z_callSi X (As := [_, _, _]) dX8_rule_29 m_X8_in s_X8_in l_X8_86 (c_X8_in (zg E) (by omega) (by omega) (by omega)) rfl rfl (Nat.le_of_ble_eq_true rfl) ⟨Nat.le_of_ble_eq_true rfl, Nat.le_of_ble_eq_true rfl⟩ ⟨Nat.le_of_ble_eq_true rfl, Nat.le_of_ble_eq_true rfl⟩ ⟨rfl, rfl⟩ (fun r3 m1 hm1 => ?_)
      obtain ⟨rfl, hr3⟩ := hm1
      refine z_if_eq X dX8_rule_32 65 (by decide) (by omega) (fun h32 => ?_) (fun h32 => ?_)
      · refine z_bipush X dX8_rule_65 (by decide) ?_
        refine z_ireturn (st := []) X rfl hQ dX8_rule_67 ⟨rfl, _, rfl, ?_⟩
        exact out (by omega) (by omega)
      · refine z_iload X dX8_rule_35 rfl ?_
        refine z_i2l X dX8_rule_37 (by omega) ?_
        refine z_ldc2 X dX8_rule_38 q_X8_96 (-999) (by decide) ?_
        refine z_ldc2 X dX8_rule_41 q_X8_98 (999) (by decide) ?_
        refine z_callSi X (As := [_, _, _]) dX8_rule_44 m_X8_in s_X8_in l_X8_86 (c_X8_in (zg E) (by omega) (by omega) (by omega)) rfl rfl (Nat.le_of_ble_eq_true rfl) ⟨Nat.le_of_ble_eq_true rfl, Nat.le_of_ble_eq_true rfl⟩ ⟨Nat.le_of_ble_eq_true rfl, Nat.le_of_ble_eq_true rfl⟩ ⟨rfl, rfl⟩ (fun r4 m1 hm1 => ?_)
        obtain ⟨rfl, hr4⟩ := hm1
        refine z_if_eq X dX8_rule_47 65 (by decide) (by omega) (fun h47 => ?_) (fun h47 => ?_)
        · refine z_bipush X dX8_rule_65 (by decide) ?_
          refine z_ireturn (st := []) X rfl hQ dX8_rule_67 ⟨rfl, _, rfl, ?_⟩
          exact out (by omega) (by omega)
        · refine z_iload X dX8_rule_50 rfl ?_
          refine z_i2l X dX8_rule_52 (by omega) ?_
          refine z_ldc2 X dX8_rule_53 q_X8_96 (-999) (by decide) ?_
          refine z_ldc2 X dX8_rule_56 q_X8_98 (999) (by decide) ?_
          refine z_callSi X (As := [_, _, _]) dX8_rule_59 m_X8_in s_X8_in l_X8_86 (c_X8_in (zg E) (by omega) (by omega) (by omega)) rfl rfl (Nat.le_of_ble_eq_true rfl) ⟨Nat.le_of_ble_eq_true rfl, Nat.le_of_ble_eq_true rfl⟩ ⟨Nat.le_of_ble_eq_true rfl, Nat.le_of_ble_eq_true rfl⟩ ⟨rfl, rfl⟩ (fun r5 m1 hm1 => ?_)
          obtain ⟨rfl, hr5⟩ := hm1
          refine z_if_ne X dX8_rule_62 68 (by decide) (by omega) (fun h62 => ?_) (fun h62 => ?_)
          · obtain ⟨k, rfl⟩ : ∃ k : Nat, s = (k : Int) := ⟨s.toNat, by omega⟩
            obtain ⟨t, rfl⟩ : ∃ t : Nat, w = (t : Int) := ⟨w.toNat, by omega⟩
            refine z_aload_n X dX8_rule_68 rfl ?_
            refine z_getR X dX8_rule_69 f_X8_21 rfl (by first | assumption | exact zbigA.o (by assumption)) (by assumption) ?_
            refine z_bipush X dX8_rule_72 (by decide) ?_
            refine z_iload_n X dX8_rule_74 rfl ?_
            refine z_imul X dX8_rule_75 ?_
            refine z_iconst X dX8_rule_76 ?_
            refine z_iload_n X dX8_rule_77 rfl ?_
            refine z_imul X dX8_rule_78 ?_
            refine z_iadd X dX8_rule_79 ?_
            refine z_iload_n X dX8_rule_80 rfl ?_
            refine z_iast X (12 * k + 3 * t) dX8_rule_81 (by omega) (by assumption) (by omega) (by omega) ?_
            refine z_aload_n X dX8_rule_82 rfl ?_
            refine z_getR X dX8_rule_83 f_X8_21 rfl (by first | assumption | exact zbigA.o (by assumption)) (by assumption) ?_
            refine z_bipush X dX8_rule_86 (by decide) ?_
            refine z_iload_n X dX8_rule_88 rfl ?_
            refine z_imul X dX8_rule_89 ?_
            refine z_iconst X dX8_rule_90 ?_
            refine z_iload_n X dX8_rule_91 rfl ?_
            refine z_imul X dX8_rule_92 ?_
            refine z_iadd X dX8_rule_93 ?_
            refine z_iconst X dX8_rule_94 ?_
            refine z_iadd X dX8_rule_95 ?_
            refine z_iload X dX8_rule_96 rfl ?_
            refine z_iast X (12 * k + 3 * t + 1) dX8_rule_98 (by omega) (by assumption) (by omega) (by omega) ?_
            refine z_aload_n X dX8_rule_99 rfl ?_
            refine z_getR X dX8_rule_100 f_X8_21 rfl (by first | assumption | exact zbigA.o (by assumption)) (by assumption) ?_
            refine z_bipush X dX8_rule_103 (by decide) ?_
            refine z_iload_n X dX8_rule_105 rfl ?_
            refine z_imul X dX8_rule_106 ?_
            refine z_iconst X dX8_rule_107 ?_
            refine z_iload_n X dX8_rule_108 rfl ?_
            refine z_imul X dX8_rule_109 ?_
            refine z_iadd X dX8_rule_110 ?_
            refine z_iconst X dX8_rule_111 ?_
            refine z_iadd X dX8_rule_112 ?_
            refine z_iload X dX8_rule_113 rfl ?_
            refine z_iast X (12 * k + 3 * t + 2) dX8_rule_115 (by omega) (by assumption) (by omega) (by omega) ?_
            have hu : zMR q (zms (zms (zms m (q + 4) (12 * k + 3 * t) x) (q + 4) (12 * k + 3 * t + 1) y) (q + 4) (12 * k + 3 * t + 2) z) (wC σ (zup (sC σ) k (zup (sC σ k) t (fun j => if j = 0 then x else if j = 1 then y else z)))) := by
              refine hm.su (by omega) ?_ (fun s hs => ⟨zup_ne _ _ hs, rfl, rfl⟩) (fun a j h1 h2 h3 => by rw [zms_ne _ _ _ _ (by omega), zms_ne _ _ _ _ (by omega), zms_ne _ _ _ _ (by omega)])
              obtain ⟨q1, q2, q3⟩ := hm.1 k (by omega)
              rw [zup_same]
              refine ⟨fun w j hw hj => ?_, by rw [zms_nq _ _ _ _ _ (by omega), zms_nq _ _ _ _ _ (by omega), zms_nq _ _ _ _ _ (by omega)]; exact q2, by rw [zms_nq _ _ _ _ _ (by omega), zms_nq _ _ _ _ _ (by omega), zms_nq _ _ _ _ _ (by omega)]; exact q3⟩
              by_cases hwt : w = t
              · subst hwt
                rw [zup_same]
                rcases (show j = 0 ∨ j = 1 ∨ j = 2 by omega) with rfl | rfl | rfl
                · rw [zms_nk _ _ _ _ _ (by omega), zms_nk _ _ _ _ _ (by omega)]; exact zms_same m (q + 4) (12 * k + 3 * w) x
                · rw [zms_nk _ _ _ _ _ (by omega), zms_same]; rfl
                · rw [zms_same]; rfl
              · rw [zup_ne _ _ hwt, zms_nk _ _ _ _ _ (by omega), zms_nk _ _ _ _ _ (by omega), zms_nk _ _ _ _ _ (by omega)]
                exact q1 w j hw hj
            refine z_aload_n X dX8_rule_116 rfl ?_
            refine z_iload_n X dX8_rule_117 rfl ?_
            refine z_callVi X (As := [_]) dX8_rule_118 m_X8_emptied i_X8_emptied l_X8_100 (c_X8_emptied (zg E) (σ := wC σ (zup (sC σ) k (zup (sC σ k) t (fun j => if j = 0 then x else if j = 1 then y else z)))) k rfl (by omega) hA (fun d y h1 h2 => (ho.2.1 d y h1 h2).1) hu) (by first | assumption | exact zbigA.o (by assumption)) rfl rfl rfl (Nat.le_of_ble_eq_true rfl) ⟨Nat.le_of_ble_eq_true rfl, Nat.le_of_ble_eq_true rfl⟩ ⟨Nat.le_of_ble_eq_true rfl, Nat.le_of_ble_eq_true rfl⟩ ⟨rfl, rfl⟩ (fun r6 m1 hm1 => ?_)
            refine z_ireturn (st := []) X rfl hQ dX8_rule_121 ⟨rfl, _, rfl, ?_⟩
            obtain ⟨e1, e2, rfl⟩ := hm1
            unfold sp_rule
            rw [if_neg (by omega), if_neg (by omega), Int.toNat_natCast, Int.toNat_natCast]
            exact ⟨e1, (((zmm.r.w (by omega)).w (by omega)).w (by omega)).t e2, rfl⟩
          · refine z_bipush X dX8_rule_65 (by decide) ?_
            refine z_ireturn (st := []) X rfl hQ dX8_rule_67 ⟨rfl, _, rfl, ?_⟩
            exact out (by omega) (by omega)
  · refine z_iconst X dX8_rule_7 ?_
    refine z_ireturn (st := []) X rfl hQ dX8_rule_8 ⟨rfl, _, rfl, ?_⟩
    unfold sp_rule
    rw [if_pos (by omega)]
    exact ⟨hm, zmm.r, rfl⟩
theorem c_X8_bound (G : zG) {A : zA} {m : zM} {q : Nat} {σ : zSt} {s x y : Int} (hA : zmodA A q) (hm : zMR q m σ) (ho : zStok σ) (hs : zi32 s) (hx : zi32 x) (hy : zi32 y) : zMet G k_X8_bound [vr q, vi s, vi x, vi y] A m (zpi A (fun r m' => zMR q m' (sp_bound σ s x y).2 ∧ zmm q m m' ∧ r = (sp_bound σ s x y).1)) := by
  obtain ⟨⟨hO0, f0, f1, f2, f3, f4, f5, f6, f7, f8, f9, f10, f11, f12, f16, f24, f25⟩, ⟨g1, g2, g3⟩, ⟨g4, g5, g6, g7, g8, g9⟩, ⟨g10, g11, g12, g13⟩, g14, g15, g16⟩ := id hA
  unfold zi32 at hs hx hy
  refine zMet.of RX8 rfl (by decide +kernel) (Nat.le_of_ble_eq_true rfl) [some (vr q), some (vi s), some (vi x), some (vi y)] rfl (fun E hG X hQ hNm => ?_)
  subst hG
  refine z_iload_n X dX8_bound_0 rfl ?_
  refine z_callSi X (As := [_]) dX8_bound_1 m_X8_isSum s_X8_isSum l_X8_90 (c_X8_isSum (zg E) hs) rfl rfl (Nat.le_of_ble_eq_true rfl) ⟨Nat.le_of_ble_eq_true rfl, Nat.le_of_ble_eq_true rfl⟩ ⟨Nat.le_of_ble_eq_true rfl, Nat.le_of_ble_eq_true rfl⟩ ⟨rfl, rfl⟩ (fun r1 m1 hm1 => ?_)
  obtain ⟨rfl, hr1⟩ := hm1
  refine z_if_ne X dX8_bound_4 9 (by decide) (by omega) (fun h4 => ?_) (fun h4 => ?_)
  · refine z_iload_n X dX8_bound_9 rfl ?_
    refine z_iconst X dX8_bound_10 ?_
    refine z_icmp_lt X dX8_bound_11 25 (by decide) (by omega) (by omega) (fun h11 => ?_) (fun h11 => ?_)
    · refine z_bipush X dX8_bound_25 (by decide) ?_
      refine z_ireturn (st := []) X rfl hQ dX8_bound_27 ⟨rfl, _, rfl, ?_⟩
      unfold sp_bound
      rw [if_neg (by omega), if_pos (by omega)]
      exact ⟨hm, zmm.r, rfl⟩
    · refine z_iload_n X dX8_bound_14 rfl ?_
      refine z_iload_n X dX8_bound_15 rfl ?_
      refine z_icmp_le X dX8_bound_16 25 (by decide) (by omega) (by omega) (fun h16 => ?_) (fun h16 => ?_)
      · refine z_bipush X dX8_bound_25 (by decide) ?_
        refine z_ireturn (st := []) X rfl hQ dX8_bound_27 ⟨rfl, _, rfl, ?_⟩
        unfold sp_bound
        rw [if_neg (by omega), if_pos (by omega)]
        exact ⟨hm, zmm.r, rfl⟩
      · refine z_iload_n X dX8_bound_19 rfl ?_
        refine z_ldc X dX8_bound_20 q_X8_104 (1000000) (by decide) ?_
        refine z_icmp_le X dX8_bound_22 28 (by decide) (by omega) (by omega) (fun h22 => ?_) (fun h22 => ?_)
        · obtain ⟨k, rfl⟩ : ∃ k : Nat, s = (k : Int) := ⟨s.toNat, by omega⟩
          refine z_aload_n X dX8_bound_28 rfl ?_
          refine z_getR X dX8_bound_29 f_X8_24 rfl (by first | assumption | exact zbigA.o (by assumption)) (by assumption) ?_
          refine z_iload_n X dX8_bound_32 rfl ?_
          refine z_iload_n X dX8_bound_33 rfl ?_
          refine z_iast X (k) dX8_bound_34 (by omega) (by assumption) (by omega) (by omega) ?_
          refine z_aload_n X dX8_bound_35 rfl ?_
          refine z_getR X dX8_bound_36 f_X8_27 rfl (by first | assumption | exact zbigA.o (by assumption)) (by assumption) ?_
          refine z_iload_n X dX8_bound_39 rfl ?_
          refine z_iload_n X dX8_bound_40 rfl ?_
          refine z_iast X (k) dX8_bound_41 (by omega) (by assumption) (by omega) (by omega) ?_
          have hu : zMR q (zms (zms m (q + 5) k x) (q + 6) k y) (wUV σ (zup (sU σ) k x) (zup (sV σ) k y)) := by
            refine hm.su (by omega) ?_ (fun t ht => ⟨rfl, zup_ne _ _ ht, zup_ne _ _ ht⟩) (fun a j h1 h2 h3 => by rw [zms_ne _ _ _ _ (by omega), zms_ne _ _ _ _ (by omega)])
            obtain ⟨q1, q2, q3⟩ := hm.1 k (by omega)
            rw [zup_same, zup_same]
            exact ⟨fun w j hw hj => by rw [zms_nq _ _ _ _ _ (by omega), zms_nq _ _ _ _ _ (by omega)]; exact q1 w j hw hj, by rw [zms_nq _ _ _ _ _ (by omega), zms_same], zms_same _ _ _ _⟩
          refine z_aload_n X dX8_bound_42 rfl ?_
          refine z_iload_n X dX8_bound_43 rfl ?_
          refine z_callVi X (As := [_]) dX8_bound_44 m_X8_emptied i_X8_emptied l_X8_100 (c_X8_emptied (zg E) (σ := wUV σ (zup (sU σ) k x) (zup (sV σ) k y)) k rfl (by omega) hA (fun d y h1 h2 => (ho.2.1 d y h1 h2).1) hu) (by first | assumption | exact zbigA.o (by assumption)) rfl rfl rfl (Nat.le_of_ble_eq_true rfl) ⟨Nat.le_of_ble_eq_true rfl, Nat.le_of_ble_eq_true rfl⟩ ⟨Nat.le_of_ble_eq_true rfl, Nat.le_of_ble_eq_true rfl⟩ ⟨rfl, rfl⟩ (fun r6 m1 hm1 => ?_)
          refine z_ireturn (st := []) X rfl hQ dX8_bound_47 ⟨rfl, _, rfl, ?_⟩
          obtain ⟨e1, e2, rfl⟩ := hm1
          unfold sp_bound
          rw [if_neg (by omega), if_neg (by omega), Int.toNat_natCast]
          exact ⟨e1, ((zmm.r.w (by omega)).w (by omega)).t e2, rfl⟩
        · refine z_bipush X dX8_bound_25 (by decide) ?_
          refine z_ireturn (st := []) X rfl hQ dX8_bound_27 ⟨rfl, _, rfl, ?_⟩
          unfold sp_bound
          rw [if_neg (by omega), if_pos (by omega)]
          exact ⟨hm, zmm.r, rfl⟩
  · refine z_iconst X dX8_bound_7 ?_
    refine z_ireturn (st := []) X rfl hQ dX8_bound_8 ⟨rfl, _, rfl, ?_⟩
    unfold sp_bound
    rw [if_pos (by omega)]
    exact ⟨hm, zmm.r, rfl⟩
theorem c_X8_value (G : zG) {A : zA} {m : zM} {q s : Nat} {c : Nat → Nat → Int} {u v : Int} (hA : zmodA A q) (hs : s < 6) (hm : zmsu m q s c u v) {si wi ki : Int} (w k : Nat) (hsi : si = (s : Int)) (hw : wi = (w : Int)) (hk : ki = (k : Int)) (hw4 : w < 4) (hk100 : k < 100) : zMet G k_X8_value [vr q, vi si, vi wi, vi ki] A m (zpi A (fun r m' => m = m' ∧ r = zpval c w k)) := by
  subst hsi hw hk
  obtain ⟨⟨hO0, f0, f1, f2, f3, f4, f5, f6, f7, f8, f9, f10, f11, f12, f16, f24, f25⟩, ⟨g1, g2, g3⟩, ⟨g4, g5, g6, g7, g8, g9⟩, ⟨g10, g11, g12, g13⟩, g14, g15, g16⟩ := id hA
  have e0 : m (q + 4) (12 * s + 3 * w) = c w 0 := hm.1 w 0 hw4 (by omega)
  have e1 : m (q + 4) (12 * s + 3 * w + 1) = c w 1 := hm.1 w 1 hw4 (by omega)
  have e2 : m (q + 4) (12 * s + 3 * w + 2) = c w 2 := hm.1 w 2 hw4 (by omega)
  refine zMet.of RX8 rfl (by decide +kernel) (Nat.le_of_ble_eq_true rfl) [some (vr q), some (vi (s : Int)), some (vi (w : Int)), some (vi (k : Int)), none] rfl (fun E hG X hQ hNm => ?_)
  subst hG
  refine z_iload_n X dX8_value_0 rfl ?_
  refine z_iconst X dX8_value_1 ?_
  refine z_icmp_ge X dX8_value_2 11 (by decide) (by omega) (by omega) (fun h2 => ?_) (fun h2 => ?_)
  · refine z_bipush X dX8_value_11 (by decide) ?_
    refine z_iload_n X dX8_value_13 rfl ?_
    refine z_imul X dX8_value_14 ?_
    refine z_iconst X dX8_value_15 ?_
    refine z_iload_n X dX8_value_16 rfl ?_
    refine z_imul X dX8_value_17 ?_
    refine z_iadd X dX8_value_18 ?_
    refine z_istore X dX8_value_19 (fun y => [_, _, _, _, some (vi y)]) (by decide) (fun _ => rfl) (fun x hx => ?_)
    refine z_aload_n X dX8_value_21 rfl ?_
    refine z_getR X dX8_value_22 f_X8_21 rfl (by first | assumption | exact zbigA.o (by assumption)) (by assumption) ?_
    refine z_iload X dX8_value_25 rfl ?_
    refine z_iald X (12 * s + 3 * w) dX8_value_27 (by omega) (by assumption) (by omega) (by omega) ?_
    refine z_aload_n X dX8_value_28 rfl ?_
    refine z_getR X dX8_value_29 f_X8_21 rfl (by first | assumption | exact zbigA.o (by assumption)) (by assumption) ?_
    refine z_iload X dX8_value_32 rfl ?_
    refine z_iconst X dX8_value_34 ?_
    refine z_iadd X dX8_value_35 ?_
    refine z_iald X (12 * s + 3 * w + 1) dX8_value_36 (by omega) (by assumption) (by omega) (by omega) ?_
    refine z_iload_n X dX8_value_37 rfl ?_
    refine z_imul X dX8_value_38 ?_
    refine z_iadd X dX8_value_39 ?_
    refine z_aload_n X dX8_value_40 rfl ?_
    refine z_getR X dX8_value_41 f_X8_21 rfl (by first | assumption | exact zbigA.o (by assumption)) (by assumption) ?_
    refine z_iload X dX8_value_44 rfl ?_
    refine z_iconst X dX8_value_46 ?_
    refine z_iadd X dX8_value_47 ?_
    refine z_iald X (12 * s + 3 * w + 2) dX8_value_48 (by omega) (by assumption) (by omega) (by omega) ?_
    refine z_iload_n X dX8_value_49 rfl ?_
    refine z_imul X dX8_value_50 ?_
    refine z_iload_n X dX8_value_51 rfl ?_
    refine z_imul X dX8_value_52 ?_
    refine z_iadd X dX8_value_53 ?_
    refine z_ireturn (st := []) X rfl hQ dX8_value_54 ⟨rfl, _, rfl, ?_⟩
    refine ⟨rfl, ?_⟩
    unfold zpval
    rw [if_neg (by omega), e0, e1, e2]
    grind
  · refine z_iload_n X dX8_value_5 rfl ?_
    refine z_if_ne X dX8_value_6 11 (by decide) (by omega) (fun h6 => ?_) (fun h6 => ?_)
    · refine z_bipush X dX8_value_11 (by decide) ?_
      refine z_iload_n X dX8_value_13 rfl ?_
      refine z_imul X dX8_value_14 ?_
      refine z_iconst X dX8_value_15 ?_
      refine z_iload_n X dX8_value_16 rfl ?_
      refine z_imul X dX8_value_17 ?_
      refine z_iadd X dX8_value_18 ?_
      refine z_istore X dX8_value_19 (fun y => [_, _, _, _, some (vi y)]) (by decide) (fun _ => rfl) (fun x hx => ?_)
      refine z_aload_n X dX8_value_21 rfl ?_
      refine z_getR X dX8_value_22 f_X8_21 rfl (by first | assumption | exact zbigA.o (by assumption)) (by assumption) ?_
      refine z_iload X dX8_value_25 rfl ?_
      refine z_iald X (12 * s + 3 * w) dX8_value_27 (by omega) (by assumption) (by omega) (by omega) ?_
      refine z_aload_n X dX8_value_28 rfl ?_
      refine z_getR X dX8_value_29 f_X8_21 rfl (by first | assumption | exact zbigA.o (by assumption)) (by assumption) ?_
      refine z_iload X dX8_value_32 rfl ?_
      refine z_iconst X dX8_value_34 ?_
      refine z_iadd X dX8_value_35 ?_
      refine z_iald X (12 * s + 3 * w + 1) dX8_value_36 (by omega) (by assumption) (by omega) (by omega) ?_
      refine z_iload_n X dX8_value_37 rfl ?_
      refine z_imul X dX8_value_38 ?_
      refine z_iadd X dX8_value_39 ?_
      refine z_aload_n X dX8_value_40 rfl ?_
      refine z_getR X dX8_value_41 f_X8_21 rfl (by first | assumption | exact zbigA.o (by assumption)) (by assumption) ?_
      refine z_iload X dX8_value_44 rfl ?_
      refine z_iconst X dX8_value_46 ?_
      refine z_iadd X dX8_value_47 ?_
      refine z_iald X (12 * s + 3 * w + 2) dX8_value_48 (by omega) (by assumption) (by omega) (by omega) ?_
      refine z_iload_n X dX8_value_49 rfl ?_
      refine z_imul X dX8_value_50 ?_
      refine z_iload_n X dX8_value_51 rfl ?_
      refine z_imul X dX8_value_52 ?_
      refine z_iadd X dX8_value_53 ?_
      refine z_ireturn (st := []) X rfl hQ dX8_value_54 ⟨rfl, _, rfl, ?_⟩
      refine ⟨rfl, ?_⟩
      unfold zpval
      rw [if_neg (by omega), e0, e1, e2]
      grind
    · refine z_iconst X dX8_value_9 ?_
      refine z_ireturn (st := []) X rfl hQ dX8_value_10 ⟨rfl, _, rfl, ?_⟩
      refine ⟨rfl, ?_⟩
      unfold zpval
      rw [if_pos ⟨by omega, by omega⟩]
theorem c_X8_at (G : zG) {A : zA} {m : zM} {q : Nat} {σ : zSt} {s w k : Int} (hA : zmodA A q) (hm : zMR q m σ) (hs : zi32 s) (hw : zi32 w) (hk : zi32 k) : zMet G k_X8_at [vr q, vi s, vi w, vi k] A m (zpi A (fun r m' => m = m' ∧ r = sp_at σ s w k)) := by
  obtain ⟨⟨hO0, f0, f1, f2, f3, f4, f5, f6, f7, f8, f9, f10, f11, f12, f16, f24, f25⟩, ⟨g1, g2, g3⟩, ⟨g4, g5, g6, g7, g8, g9⟩, ⟨g10, g11, g12, g13⟩, g14, g15, g16⟩ := id hA
  unfold zi32 at hs hw hk
  refine zMet.of RX8 rfl (by decide +kernel) (Nat.le_of_ble_eq_true rfl) [some (vr q), some (vi s), some (vi w), some (vi k)] rfl (fun E hG X hQ hNm => ?_)
  subst hG
  refine z_iload_n X dX8_at_0 rfl ?_
  refine z_callSi X (As := [_]) dX8_at_1 m_X8_isSum s_X8_isSum l_X8_90 (c_X8_isSum (zg E) hs) rfl rfl (Nat.le_of_ble_eq_true rfl) ⟨Nat.le_of_ble_eq_true rfl, Nat.le_of_ble_eq_true rfl⟩ ⟨Nat.le_of_ble_eq_true rfl, Nat.le_of_ble_eq_true rfl⟩ ⟨rfl, rfl⟩ (fun r1 m1 hm1 => ?_)
  obtain ⟨rfl, hr1⟩ := hm1
  refine z_if_eq X dX8_at_4 19 (by decide) (by omega) (fun h4 => ?_) (fun h4 => ?_)
  · refine z_ldc X dX8_at_19 q_X8_105 (-1000000001) (by decide) ?_
    refine z_goto X dX8_at_21 48 (by decide) ?_
    refine z_ireturn (st := []) X rfl hQ dX8_at_48 ⟨rfl, _, rfl, ?_⟩
    refine ⟨rfl, ?_⟩
    unfold sp_at
    first
      | rw [if_pos (by omega)]
      | rw [if_neg (by omega), if_pos (by omega)]
      | (rw [if_neg (by omega), if_neg (by omega)]; exact hr4)
  · refine z_iload_n X dX8_at_7 rfl ?_
    refine z_i2l X dX8_at_8 (by omega) ?_
    refine z_lconst X dX8_at_9 0 rfl ?_
    refine z_ldc2 X dX8_at_10 q_X8_94 (3) (by decide) ?_
    refine z_callSi X (As := [_, _, _]) dX8_at_13 m_X8_in s_X8_in l_X8_86 (c_X8_in (zg E) (by omega) (by omega) (by omega)) rfl rfl (Nat.le_of_ble_eq_true rfl) ⟨Nat.le_of_ble_eq_true rfl, Nat.le_of_ble_eq_true rfl⟩ ⟨Nat.le_of_ble_eq_true rfl, Nat.le_of_ble_eq_true rfl⟩ ⟨rfl, rfl⟩ (fun r2 m1 hm1 => ?_)
    obtain ⟨rfl, hr2⟩ := hm1
    refine z_if_ne X dX8_at_16 24 (by decide) (by omega) (fun h16 => ?_) (fun h16 => ?_)
    · refine z_iload_n X dX8_at_24 rfl ?_
      refine z_i2l X dX8_at_25 (by omega) ?_
      refine z_lconst X dX8_at_26 0 rfl ?_
      refine z_ldc2 X dX8_at_27 q_X8_106 (99) (by decide) ?_
      refine z_callSi X (As := [_, _, _]) dX8_at_30 m_X8_in s_X8_in l_X8_86 (c_X8_in (zg E) (by omega) (by omega) (by omega)) rfl rfl (Nat.le_of_ble_eq_true rfl) ⟨Nat.le_of_ble_eq_true rfl, Nat.le_of_ble_eq_true rfl⟩ ⟨Nat.le_of_ble_eq_true rfl, Nat.le_of_ble_eq_true rfl⟩ ⟨rfl, rfl⟩ (fun r3 m1 hm1 => ?_)
      obtain ⟨rfl, hr3⟩ := hm1
      refine z_if_eq X dX8_at_33 46 (by decide) (by omega) (fun h33 => ?_) (fun h33 => ?_)
      · refine z_ldc X dX8_at_46 q_X8_112 (-1000000002) (by decide) ?_
        refine z_ireturn (st := []) X rfl hQ dX8_at_48 ⟨rfl, _, rfl, ?_⟩
        refine ⟨rfl, ?_⟩
        unfold sp_at
        first
          | rw [if_pos (by omega)]
          | rw [if_neg (by omega), if_pos (by omega)]
          | (rw [if_neg (by omega), if_neg (by omega)]; exact hr4)
      · refine z_aload_n X dX8_at_36 rfl ?_
        refine z_iload_n X dX8_at_37 rfl ?_
        refine z_iload_n X dX8_at_38 rfl ?_
        refine z_iload_n X dX8_at_39 rfl ?_
        refine z_callVi X (As := [_, _, _]) dX8_at_40 m_X8_value i_X8_value l_X8_108 (c_X8_value (zg E) (s := s.toNat) hA (by omega) (hm.1 s.toNat (by omega)) w.toNat k.toNat (by omega) (by omega) (by omega) (by omega) (by omega)) (by first | assumption | exact zbigA.o (by assumption)) rfl rfl rfl (Nat.le_of_ble_eq_true rfl) ⟨Nat.le_of_ble_eq_true rfl, Nat.le_of_ble_eq_true rfl⟩ ⟨Nat.le_of_ble_eq_true rfl, Nat.le_of_ble_eq_true rfl⟩ ⟨rfl, rfl⟩ (fun r4 m1 hm1 => ?_)
        obtain ⟨rfl, hr4⟩ := hm1
        refine z_goto X dX8_at_43 48 (by decide) ?_
        refine z_ireturn (st := []) X rfl hQ dX8_at_48 ⟨rfl, _, rfl, ?_⟩
        refine ⟨rfl, ?_⟩
        unfold sp_at
        first
          | rw [if_pos (by omega)]
          | rw [if_neg (by omega), if_pos (by omega)]
          | (rw [if_neg (by omega), if_neg (by omega)]; exact hr4)
    · refine z_ldc X dX8_at_19 q_X8_105 (-1000000001) (by decide) ?_
      refine z_goto X dX8_at_21 48 (by decide) ?_
      refine z_ireturn (st := []) X rfl hQ dX8_at_48 ⟨rfl, _, rfl, ?_⟩
      refine ⟨rfl, ?_⟩
      unfold sp_at
      first
        | rw [if_pos (by omega)]
        | rw [if_neg (by omega), if_pos (by omega)]
        | (rw [if_neg (by omega), if_neg (by omega)]; exact hr4)
theorem zdivmul32 {x y : Int} : (x / 4294967296 * (y / 4294967296)) * 4294967296 + (x / 4294967296 * (y % 4294967296) + x % 4294967296 * (y / 4294967296)) + (x % 4294967296 * (y % 4294967296)) / 4294967296 = x * y / 4294967296 := by
  have e1 : x = x / 4294967296 * 4294967296 + x % 4294967296 := by omega
  have e2 : y = y / 4294967296 * 4294967296 + y % 4294967296 := by omega
  generalize x / 4294967296 = a at e1
  generalize x % 4294967296 = b at e1
  generalize y / 4294967296 = c at e2
  generalize y % 4294967296 = d at e2
  have e3 : x * y = b * d + 4294967296 * (a * c * 4294967296 + a * d + b * c) := by rw [e1, e2]; grind
  rw [e3, Int.add_mul_ediv_left _ _ (by omega)]
  omega
theorem c_X8_size (G : zG) {A : zA} {m : zM} {x : Int} (hx : -9223372036854775807 ≤ x ∧ x < 9223372036854775808) : zMet G k_X8_size [vl x] A m (zpl A (fun r m' => m = m' ∧ r = (x.natAbs : Int))) := by
  refine zMet.of RX8 rfl (by decide +kernel) (Nat.le_of_ble_eq_true rfl) [some (vl x), none] rfl (fun E hG X hQ hNm => ?_)
  subst hG
  refine z_lload_n X dX8_size_0 rfl ?_
  refine z_lconst X dX8_size_1 0 rfl ?_
  refine z_lcmp_ge X dX8_size_2 dX8_size_3 11 (by decide) (by omega) (by omega) (fun h2 => ?_) (fun h2 => ?_)
  · refine z_lload_n X dX8_size_11 rfl ?_
    refine z_lreturn (st := []) X rfl hQ dX8_size_12 ⟨rfl, _, rfl, ?_⟩
    exact ⟨rfl, by omega⟩
  · refine z_lload_n X dX8_size_6 rfl ?_
    refine z_lneg X dX8_size_7 ?_
    refine z_goto X dX8_size_8 12 (by decide) ?_
    refine z_lreturn (st := []) X rfl hQ dX8_size_12 ⟨rfl, _, rfl, ?_⟩
    exact ⟨rfl, by omega⟩
theorem c_X8_upper (G : zG) {A : zA} {m : zM} {x y : Int} (hx : 0 ≤ x ∧ x < 1000000000000000) (hy : 0 ≤ y ∧ y < 1000000000000000) : zMet G k_X8_upper [vl x, vl y] A m (zpl A (fun r m' => m = m' ∧ r = x * y / 4294967296)) := by
  have h1 := zmul_le (a := x % 4294967296) (A := 4294967295) (b := y % 4294967296) (B := 4294967295) (by omega) (by omega) (by omega) (by omega)
  refine zMet.of RX8 rfl (by decide +kernel) (Nat.le_of_ble_eq_true rfl) [some (vl x), none, some (vl y), none, none, none] rfl (fun E hG X hQ hNm => ?_)
  subst hG
  refine z_lload_n X dX8_upper_0 rfl ?_
  refine z_bipush X dX8_upper_1 (by decide) ?_
  refine z_lushr X dX8_upper_3 32 4294967296 rfl (by decide) (by decide) (by omega) ?_
  refine z_lload_n X dX8_upper_4 rfl ?_
  refine z_ldc2 X dX8_upper_5 q_X8_64 (4294967295) (by decide) ?_
  refine z_land X dX8_upper_8 32 (by omega) (by decide) 4294967296 (by decide) ?_
  refine z_lmul X dX8_upper_9 ?_
  refine z_lload_n X dX8_upper_10 rfl ?_
  refine z_ldc2 X dX8_upper_11 q_X8_64 (4294967295) (by decide) ?_
  refine z_land X dX8_upper_14 32 (by omega) (by decide) 4294967296 (by decide) ?_
  refine z_lload_n X dX8_upper_15 rfl ?_
  refine z_bipush X dX8_upper_16 (by decide) ?_
  refine z_lushr X dX8_upper_18 32 4294967296 rfl (by decide) (by decide) (by omega) ?_
  refine z_lmul X dX8_upper_19 ?_
  refine z_ladd X dX8_upper_20 ?_
  refine z_lstore X dX8_upper_21 (fun y => [_, _, _, _, some (vl y), _]) (by decide) (fun _ => rfl) (fun z hz => ?_)
  refine z_lload_n X dX8_upper_23 rfl ?_
  refine z_bipush X dX8_upper_24 (by decide) ?_
  refine z_lushr X dX8_upper_26 32 4294967296 rfl (by decide) (by decide) (by omega) ?_
  refine z_lload_n X dX8_upper_27 rfl ?_
  refine z_bipush X dX8_upper_28 (by decide) ?_
  refine z_lushr X dX8_upper_30 32 4294967296 rfl (by decide) (by decide) (by omega) ?_
  refine z_lmul X dX8_upper_31 ?_
  refine z_bipush X dX8_upper_32 (by decide) ?_
  refine z_lshl X dX8_upper_34 32 4294967296 rfl (by decide) (by decide) ?_
  refine z_lload X dX8_upper_35 rfl ?_
  refine z_ladd X dX8_upper_37 ?_
  refine z_lload_n X dX8_upper_38 rfl ?_
  refine z_ldc2 X dX8_upper_39 q_X8_64 (4294967295) (by decide) ?_
  refine z_land X dX8_upper_42 32 (by omega) (by decide) 4294967296 (by decide) ?_
  refine z_lload_n X dX8_upper_43 rfl ?_
  refine z_ldc2 X dX8_upper_44 q_X8_64 (4294967295) (by decide) ?_
  refine z_land X dX8_upper_47 32 (by omega) (by decide) 4294967296 (by decide) ?_
  refine z_lmul X dX8_upper_48 ?_
  refine z_bipush X dX8_upper_49 (by decide) ?_
  refine z_lushr X dX8_upper_51 32 4294967296 rfl (by decide) (by decide) (by omega) ?_
  refine z_ladd X dX8_upper_52 ?_
  refine z_lreturn (st := []) X rfl hQ dX8_upper_53 ⟨rfl, _, rfl, ?_⟩
  refine ⟨rfl, ?_⟩
  rw [hz]
  exact zdivmul32
theorem c_X8_lower (G : zG) {A : zA} {m : zM} {x y : Int} : zMet G k_X8_lower [vl x, vl y] A m (zpl A (fun r m' => m = m' ∧ r = x * y % 4294967296)) := by
  refine zMet.of RX8 rfl (by decide +kernel) (Nat.le_of_ble_eq_true rfl) [some (vl x), none, some (vl y), none] rfl (fun E hG X hQ hNm => ?_)
  subst hG
  refine z_lload_n X dX8_lower_0 rfl ?_
  refine z_ldc2 X dX8_lower_1 q_X8_64 (4294967295) (by decide) ?_
  refine z_land X dX8_lower_4 32 (by omega) (by decide) 4294967296 (by decide) ?_
  refine z_lload_n X dX8_lower_5 rfl ?_
  refine z_ldc2 X dX8_lower_6 q_X8_64 (4294967295) (by decide) ?_
  refine z_land X dX8_lower_9 32 (by omega) (by decide) 4294967296 (by decide) ?_
  refine z_lmul X dX8_lower_10 ?_
  refine z_ldc2 X dX8_lower_11 q_X8_64 (4294967295) (by decide) ?_
  refine z_land X dX8_lower_14 32 (by omega) (by decide) 4294967296 (by decide) ?_
  refine z_lreturn (st := []) X rfl hQ dX8_lower_15 ⟨rfl, _, rfl, ?_⟩
  exact ⟨rfl, (Int.mul_emod x y 4294967296).symm⟩
theorem c_X8_isSteep (G : zG) {A : zA} {m : zM} {q s k : Nat} {c : Nat → Nat → Int} {u v : Int} {si ki : Int} (hA : zmodA A q) (hs : s < 6) (hm : zmsu m q s c u v) (hc : zcoef c) (hb : zbnd u v) (hsi : si = (s : Int)) (hki : ki = (k : Int)) (hk1 : 1 ≤ k) (hk : k < 100) : zMet G k_X8_isSteep [vr q, vi si, vi ki] A m (zpi A (fun r m' => m = m' ∧ ((r = 1 ∧ zsteep c u v k) ∨ (r = 0 ∧ ¬ zsteep c u v k)))) := by
  subst hsi hki
  obtain ⟨⟨hO0, f0, f1, f2, f3, f4, f5, f6, f7, f8, f9, f10, f11, f12, f16, f24, f25⟩, ⟨g1, g2, g3⟩, ⟨g4, g5, g6, g7, g8, g9⟩, ⟨g10, g11, g12, g13⟩, g14, g15, g16⟩ := id hA
  obtain ⟨hb1, hb2, hb3⟩ := hb
  have eu := hm.2.1
  have ev := hm.2.2
  have p0 := zpval_bd hc (w := 0) (k := k) (by omega) hk
  have p1 := zpval_bd hc (w := 1) (k := k) (by omega) hk
  have p2 := zpval_bd hc (w := 2) (k := k) (by omega) hk
  have p3 := zpval_bd hc (w := 3) (k := k) (by omega) hk
  have p4 := zpval_bd hc (w := 2) (k := k - 1) (by omega) (by omega)
  have p5 := zpval_bd hc (w := 3) (k := k - 1) (by omega) (by omega)
  have x1 := zmul_bd (A := 9891099) (B := 9891099) p0 p2 (by omega) (by omega)
  have x2 := zmul_bd (A := 9891099) (B := 1000000) (b := v) p5 (by omega) (by omega) (by omega)
  have x3 := zmul_bd (A := 9891099) (B := 9891099) p1 p3 (by omega) (by omega)
  have x4 := zmul_bd (A := 9891099) (B := 1000000) (b := u) p4 (by omega) (by omega) (by omega)
  refine zMet.of RX8 rfl (by decide +kernel) (Nat.le_of_ble_eq_true rfl) [some (vr q), some (vi (s : Int)), some (vi (k : Int)), none, none, none, none, none, none, none, none, none, none, none, none] rfl (fun E hG X hQ hNm => ?_)
  subst hG
  refine z_aload_n X dX8_isSteep_0 rfl ?_
  refine z_iload_n X dX8_isSteep_1 rfl ?_
  refine z_iconst X dX8_isSteep_2 ?_
  refine z_iload_n X dX8_isSteep_3 rfl ?_
  refine z_callVi X (As := [_, _, _]) dX8_isSteep_4 m_X8_value i_X8_value l_X8_108 (c_X8_value (zg E) hA hs hm 0 k rfl rfl rfl (by omega) hk) (by first | assumption | exact zbigA.o (by assumption)) rfl rfl rfl (Nat.le_of_ble_eq_true rfl) ⟨Nat.le_of_ble_eq_true rfl, Nat.le_of_ble_eq_true rfl⟩ ⟨Nat.le_of_ble_eq_true rfl, Nat.le_of_ble_eq_true rfl⟩ ⟨rfl, rfl⟩ (fun r1 m1 hm1 => ?_)
  obtain ⟨rfl, rfl⟩ := hm1
  refine z_i2l X dX8_isSteep_7 (by omega) ?_
  refine z_aload_n X dX8_isSteep_8 rfl ?_
  refine z_iload_n X dX8_isSteep_9 rfl ?_
  refine z_iconst X dX8_isSteep_10 ?_
  refine z_iload_n X dX8_isSteep_11 rfl ?_
  refine z_callVi X (As := [_, _, _]) dX8_isSteep_12 m_X8_value i_X8_value l_X8_108 (c_X8_value (zg E) hA hs hm 2 k rfl rfl rfl (by omega) hk) (by first | assumption | exact zbigA.o (by assumption)) rfl rfl rfl (Nat.le_of_ble_eq_true rfl) ⟨Nat.le_of_ble_eq_true rfl, Nat.le_of_ble_eq_true rfl⟩ ⟨Nat.le_of_ble_eq_true rfl, Nat.le_of_ble_eq_true rfl⟩ ⟨rfl, rfl⟩ (fun r1 m1 hm1 => ?_)
  obtain ⟨rfl, rfl⟩ := hm1
  refine z_i2l X dX8_isSteep_15 (by omega) ?_
  refine z_lmul X dX8_isSteep_16 ?_
  refine z_callSl X (As := [_]) dX8_isSteep_17 m_X8_size s_X8_size l_X8_113 (c_X8_size (zg E) (by omega)) rfl rfl (Nat.le_of_ble_eq_true rfl) ⟨Nat.le_of_ble_eq_true rfl, Nat.le_of_ble_eq_true rfl⟩ ⟨Nat.le_of_ble_eq_true rfl, Nat.le_of_ble_eq_true rfl⟩ ⟨rfl, rfl⟩ (fun r1 m1 hm1 => ?_)
  obtain ⟨rfl, rfl⟩ := hm1
  refine z_lstore_n X dX8_isSteep_20 (fun y => [_, _, _, some (vl y), _, _, _, _, _, _, _, _, _, _, _]) (by decide) (fun _ => rfl) (fun x hx => ?_)
  refine z_aload_n X dX8_isSteep_21 rfl ?_
  refine z_iload_n X dX8_isSteep_22 rfl ?_
  refine z_iconst X dX8_isSteep_23 ?_
  refine z_iload_n X dX8_isSteep_24 rfl ?_
  refine z_iconst X dX8_isSteep_25 ?_
  refine z_isub X dX8_isSteep_26 ?_
  refine z_callVi X (As := [_, _, _]) dX8_isSteep_27 m_X8_value i_X8_value l_X8_108 (c_X8_value (zg E) hA hs hm 3 (k - 1) rfl rfl (by omega) (by omega) (by omega)) (by first | assumption | exact zbigA.o (by assumption)) rfl rfl rfl (Nat.le_of_ble_eq_true rfl) ⟨Nat.le_of_ble_eq_true rfl, Nat.le_of_ble_eq_true rfl⟩ ⟨Nat.le_of_ble_eq_true rfl, Nat.le_of_ble_eq_true rfl⟩ ⟨rfl, rfl⟩ (fun r1 m1 hm1 => ?_)
  obtain ⟨rfl, rfl⟩ := hm1
  refine z_i2l X dX8_isSteep_30 (by omega) ?_
  refine z_aload_n X dX8_isSteep_31 rfl ?_
  refine z_getR X dX8_isSteep_32 f_X8_27 rfl (by first | assumption | exact zbigA.o (by assumption)) (by assumption) ?_
  refine z_iload_n X dX8_isSteep_35 rfl ?_
  refine z_iald X (s) dX8_isSteep_36 (by omega) (by assumption) (by omega) (by omega) ?_
  rw [ev]
  refine z_i2l X dX8_isSteep_37 (by omega) ?_
  refine z_lmul X dX8_isSteep_38 ?_
  refine z_callSl X (As := [_]) dX8_isSteep_39 m_X8_size s_X8_size l_X8_113 (c_X8_size (zg E) (by omega)) rfl rfl (Nat.le_of_ble_eq_true rfl) ⟨Nat.le_of_ble_eq_true rfl, Nat.le_of_ble_eq_true rfl⟩ ⟨Nat.le_of_ble_eq_true rfl, Nat.le_of_ble_eq_true rfl⟩ ⟨rfl, rfl⟩ (fun r1 m1 hm1 => ?_)
  obtain ⟨rfl, rfl⟩ := hm1
  refine z_lstore X dX8_isSteep_42 (fun y => [_, _, _, _, _, some (vl y), _, _, _, _, _, _, _, _, _]) (by decide) (fun _ => rfl) (fun y hy => ?_)
  refine z_aload_n X dX8_isSteep_44 rfl ?_
  refine z_iload_n X dX8_isSteep_45 rfl ?_
  refine z_iconst X dX8_isSteep_46 ?_
  refine z_iload_n X dX8_isSteep_47 rfl ?_
  refine z_callVi X (As := [_, _, _]) dX8_isSteep_48 m_X8_value i_X8_value l_X8_108 (c_X8_value (zg E) hA hs hm 1 k rfl rfl rfl (by omega) hk) (by first | assumption | exact zbigA.o (by assumption)) rfl rfl rfl (Nat.le_of_ble_eq_true rfl) ⟨Nat.le_of_ble_eq_true rfl, Nat.le_of_ble_eq_true rfl⟩ ⟨Nat.le_of_ble_eq_true rfl, Nat.le_of_ble_eq_true rfl⟩ ⟨rfl, rfl⟩ (fun r1 m1 hm1 => ?_)
  obtain ⟨rfl, rfl⟩ := hm1
  refine z_i2l X dX8_isSteep_51 (by omega) ?_
  refine z_aload_n X dX8_isSteep_52 rfl ?_
  refine z_iload_n X dX8_isSteep_53 rfl ?_
  refine z_iconst X dX8_isSteep_54 ?_
  refine z_iload_n X dX8_isSteep_55 rfl ?_
  refine z_callVi X (As := [_, _, _]) dX8_isSteep_56 m_X8_value i_X8_value l_X8_108 (c_X8_value (zg E) hA hs hm 3 k rfl rfl rfl (by omega) hk) (by first | assumption | exact zbigA.o (by assumption)) rfl rfl rfl (Nat.le_of_ble_eq_true rfl) ⟨Nat.le_of_ble_eq_true rfl, Nat.le_of_ble_eq_true rfl⟩ ⟨Nat.le_of_ble_eq_true rfl, Nat.le_of_ble_eq_true rfl⟩ ⟨rfl, rfl⟩ (fun r1 m1 hm1 => ?_)
  obtain ⟨rfl, rfl⟩ := hm1
  refine z_i2l X dX8_isSteep_59 (by omega) ?_
  refine z_lmul X dX8_isSteep_60 ?_
  refine z_callSl X (As := [_]) dX8_isSteep_61 m_X8_size s_X8_size l_X8_113 (c_X8_size (zg E) (by omega)) rfl rfl (Nat.le_of_ble_eq_true rfl) ⟨Nat.le_of_ble_eq_true rfl, Nat.le_of_ble_eq_true rfl⟩ ⟨Nat.le_of_ble_eq_true rfl, Nat.le_of_ble_eq_true rfl⟩ ⟨rfl, rfl⟩ (fun r1 m1 hm1 => ?_)
  obtain ⟨rfl, rfl⟩ := hm1
  refine z_lstore X dX8_isSteep_64 (fun y => [_, _, _, _, _, _, _, some (vl y), _, _, _, _, _, _, _]) (by decide) (fun _ => rfl) (fun z hz => ?_)
  refine z_aload_n X dX8_isSteep_66 rfl ?_
  refine z_iload_n X dX8_isSteep_67 rfl ?_
  refine z_iconst X dX8_isSteep_68 ?_
  refine z_iload_n X dX8_isSteep_69 rfl ?_
  refine z_iconst X dX8_isSteep_70 ?_
  refine z_isub X dX8_isSteep_71 ?_
  refine z_callVi X (As := [_, _, _]) dX8_isSteep_72 m_X8_value i_X8_value l_X8_108 (c_X8_value (zg E) hA hs hm 2 (k - 1) rfl rfl (by omega) (by omega) (by omega)) (by first | assumption | exact zbigA.o (by assumption)) rfl rfl rfl (Nat.le_of_ble_eq_true rfl) ⟨Nat.le_of_ble_eq_true rfl, Nat.le_of_ble_eq_true rfl⟩ ⟨Nat.le_of_ble_eq_true rfl, Nat.le_of_ble_eq_true rfl⟩ ⟨rfl, rfl⟩ (fun r1 m1 hm1 => ?_)
  obtain ⟨rfl, rfl⟩ := hm1
  refine z_i2l X dX8_isSteep_75 (by omega) ?_
  refine z_aload_n X dX8_isSteep_76 rfl ?_
  refine z_getR X dX8_isSteep_77 f_X8_24 rfl (by first | assumption | exact zbigA.o (by assumption)) (by assumption) ?_
  refine z_iload_n X dX8_isSteep_80 rfl ?_
  refine z_iald X (s) dX8_isSteep_81 (by omega) (by assumption) (by omega) (by omega) ?_
  rw [eu]
  refine z_i2l X dX8_isSteep_82 (by omega) ?_
  refine z_lmul X dX8_isSteep_83 ?_
  refine z_callSl X (As := [_]) dX8_isSteep_84 m_X8_size s_X8_size l_X8_113 (c_X8_size (zg E) (by omega)) rfl rfl (Nat.le_of_ble_eq_true rfl) ⟨Nat.le_of_ble_eq_true rfl, Nat.le_of_ble_eq_true rfl⟩ ⟨Nat.le_of_ble_eq_true rfl, Nat.le_of_ble_eq_true rfl⟩ ⟨rfl, rfl⟩ (fun r1 m1 hm1 => ?_)
  obtain ⟨rfl, rfl⟩ := hm1
  refine z_lstore X dX8_isSteep_87 (fun y => [_, _, _, _, _, _, _, _, _, some (vl y), _, _, _, _, _]) (by decide) (fun _ => rfl) (fun w hw => ?_)
  refine z_lload_n X dX8_isSteep_89 rfl ?_
  refine z_lload X dX8_isSteep_90 rfl ?_
  refine z_callSl X (As := [_, _]) dX8_isSteep_92 m_X8_upper s_X8_upper l_X8_116 (c_X8_upper (zg E) (by omega) (by omega)) rfl rfl (Nat.le_of_ble_eq_true rfl) ⟨Nat.le_of_ble_eq_true rfl, Nat.le_of_ble_eq_true rfl⟩ ⟨Nat.le_of_ble_eq_true rfl, Nat.le_of_ble_eq_true rfl⟩ ⟨rfl, rfl⟩ (fun r1 m1 hm1 => ?_)
  obtain ⟨rfl, rfl⟩ := hm1
  refine z_lstore X dX8_isSteep_95 (fun y => [_, _, _, _, _, _, _, _, _, _, _, some (vl y), _, _, _]) (by decide) (fun _ => rfl) (fun a ha => ?_)
  refine z_lload X dX8_isSteep_97 rfl ?_
  refine z_lload X dX8_isSteep_99 rfl ?_
  refine z_callSl X (As := [_, _]) dX8_isSteep_101 m_X8_upper s_X8_upper l_X8_116 (c_X8_upper (zg E) (by omega) (by omega)) rfl rfl (Nat.le_of_ble_eq_true rfl) ⟨Nat.le_of_ble_eq_true rfl, Nat.le_of_ble_eq_true rfl⟩ ⟨Nat.le_of_ble_eq_true rfl, Nat.le_of_ble_eq_true rfl⟩ ⟨rfl, rfl⟩ (fun r1 m1 hm1 => ?_)
  obtain ⟨rfl, rfl⟩ := hm1
  refine z_lstore X dX8_isSteep_104 (fun y => [_, _, _, _, _, _, _, _, _, _, _, _, _, some (vl y), _]) (by decide) (fun _ => rfl) (fun b hb => ?_)
  have w1 := zmul_le (a := x) (A := 100000000000000) (b := y) (B := 10000000000000) (by omega) (by omega) (by omega) (by omega)
  have w2 := zmul_le (a := z) (A := 100000000000000) (b := w) (B := 10000000000000) (by omega) (by omega) (by omega) (by omega)
  have w3 : zsteep c u v k ↔ z * w < x * y := by rw [hx, hy, hz, hw]
  generalize hX : x * y = X1 at *
  generalize hZ : z * w = Z1 at *
  refine z_lload X dX8_isSteep_106 rfl ?_
  refine z_lload X dX8_isSteep_108 rfl ?_
  refine z_lcmp_eq X dX8_isSteep_110 dX8_isSteep_111 130 (by decide) (by omega) (by omega) (fun h110 => ?_) (fun h110 => ?_)
  · refine z_lload_n X dX8_isSteep_130 rfl ?_
    refine z_lload X dX8_isSteep_131 rfl ?_
    refine z_callSl X (As := [_, _]) dX8_isSteep_133 m_X8_lower s_X8_lower l_X8_120 (c_X8_lower (zg E)) rfl rfl (Nat.le_of_ble_eq_true rfl) ⟨Nat.le_of_ble_eq_true rfl, Nat.le_of_ble_eq_true rfl⟩ ⟨Nat.le_of_ble_eq_true rfl, Nat.le_of_ble_eq_true rfl⟩ ⟨rfl, rfl⟩ (fun r1 m1 hm1 => ?_)
    obtain ⟨rfl, rfl⟩ := hm1
    refine z_lload X dX8_isSteep_136 rfl ?_
    refine z_lload X dX8_isSteep_138 rfl ?_
    refine z_callSl X (As := [_, _]) dX8_isSteep_140 m_X8_lower s_X8_lower l_X8_120 (c_X8_lower (zg E)) rfl rfl (Nat.le_of_ble_eq_true rfl) ⟨Nat.le_of_ble_eq_true rfl, Nat.le_of_ble_eq_true rfl⟩ ⟨Nat.le_of_ble_eq_true rfl, Nat.le_of_ble_eq_true rfl⟩ ⟨rfl, rfl⟩ (fun r1 m1 hm1 => ?_)
    obtain ⟨rfl, rfl⟩ := hm1
    rw [hX, hZ]
    refine z_lcmp_le X dX8_isSteep_143 dX8_isSteep_144 151 (by decide) (by omega) (by omega) (fun h143 => ?_) (fun h143 => ?_)
    · refine z_iconst X dX8_isSteep_151 ?_
      refine z_zreturn (st := []) X rfl hQ dX8_isSteep_152 (by first | exact Or.inl rfl | exact Or.inr rfl | omega) ⟨rfl, _, rfl, ?_⟩
      exact ⟨rfl, by rw [w3]; omega⟩
    · refine z_iconst X dX8_isSteep_147 ?_
      refine z_goto X dX8_isSteep_148 152 (by decide) ?_
      refine z_zreturn (st := []) X rfl hQ dX8_isSteep_152 (by first | exact Or.inl rfl | exact Or.inr rfl | omega) ⟨rfl, _, rfl, ?_⟩
      exact ⟨rfl, by rw [w3]; omega⟩
  · refine z_lload X dX8_isSteep_114 rfl ?_
    refine z_lload X dX8_isSteep_116 rfl ?_
    refine z_lcmp_le X dX8_isSteep_118 dX8_isSteep_119 126 (by decide) (by omega) (by omega) (fun h118 => ?_) (fun h118 => ?_)
    · refine z_iconst X dX8_isSteep_126 ?_
      refine z_goto X dX8_isSteep_127 152 (by decide) ?_
      refine z_zreturn (st := []) X rfl hQ dX8_isSteep_152 (by first | exact Or.inl rfl | exact Or.inr rfl | omega) ⟨rfl, _, rfl, ?_⟩
      exact ⟨rfl, by rw [w3]; omega⟩
    · refine z_iconst X dX8_isSteep_122 ?_
      refine z_goto X dX8_isSteep_123 152 (by decide) ?_
      refine z_zreturn (st := []) X rfl hQ dX8_isSteep_152 (by first | exact Or.inl rfl | exact Or.inr rfl | omega) ⟨rfl, _, rfl, ?_⟩
      exact ⟨rfl, by rw [w3]; omega⟩
theorem zl8_fall {E : zCx} (X : zOK E cX8_fall RX8 6 (some .int) k_X8_fall.2.2.2.2) {A : zA} {m : zM} {q s : Nat} {c : Nat → Nat → Int} {u v ah : Int} (hA : zmodA A q) (hs : s < 6) (hm : zmsu m q s c u v) (hc : zcoef c) (hb : zbnd u v) {st i0 e : Nat} (he : e ≤ 100) (hah : (ah = 0 ∧ st = i0) ∨ (ah = 1 ∧ st < i0)) {R : Int} {P : Int → zM → Prop} (hQ : zRet E (zpi A P) 0 0) (hP : P R m) : ∀ (n k : Nat), k + n = e → i0 ≤ k → zff c u v st k n = R → zW E (0, 0) A m 3 [some (vr q), some (vi (s : Int)), some (vi (i0 : Int)), some (vi (e : Int)), some (vi ah), some (vi (k : Int))] [] := by
  obtain ⟨⟨hO0, f0, f1, f2, f3, f4, f5, f6, f7, f8, f9, f10, f11, f12, f16, f24, f25⟩, ⟨g1, g2, g3⟩, ⟨g4, g5, g6, g7, g8, g9⟩, ⟨g10, g11, g12, g13⟩, g14, g15, g16⟩ := id hA
  intro n
  induction n with
  | zero =>
    intro k hk hik hR
    refine z_iload X dX8_fall_3 rfl ?_
    refine z_iload_n X dX8_fall_5 rfl ?_
    refine z_icmp_ge X dX8_fall_6 61 (by decide) (by omega) (by omega) (fun h6 => ?_) (fun h6 => ?_)
    · refine z_bipush X dX8_fall_61 (by decide) ?_
      refine z_ireturn (st := []) X rfl hQ dX8_fall_63 ⟨rfl, _, rfl, ?_⟩
      have : R = -6 := hR.symm
      rw [this] at hP
      exact hP
    · exact absurd h6 (by omega)
  | succ n ih =>
    intro k hk hik hR
    unfold zff at hR
    have p1 := zpval_bd hc (w := 1) (k := k) (by omega) (by omega)
    have p3 := zpval_bd hc (w := 3) (k := k) (by omega) (by omega)
    refine z_iload X dX8_fall_3 rfl ?_
    refine z_iload_n X dX8_fall_5 rfl ?_
    refine z_icmp_ge X dX8_fall_6 61 (by decide) (by omega) (by omega) (fun h6 => ?_) (fun h6 => ?_)
    · exact absurd h6 (by omega)
    · refine z_aload_n X dX8_fall_9 rfl ?_
      refine z_iload_n X dX8_fall_10 rfl ?_
      refine z_iconst X dX8_fall_11 ?_
      refine z_iload X dX8_fall_12 rfl ?_
      refine z_callVi X (As := [_, _, _]) dX8_fall_14 m_X8_value i_X8_value l_X8_108 (c_X8_value (zg E) hA hs hm 1 k rfl rfl rfl (by omega) (by omega)) (by first | assumption | exact zbigA.o (by assumption)) rfl rfl rfl (Nat.le_of_ble_eq_true rfl) ⟨Nat.le_of_ble_eq_true rfl, Nat.le_of_ble_eq_true rfl⟩ ⟨Nat.le_of_ble_eq_true rfl, Nat.le_of_ble_eq_true rfl⟩ ⟨rfl, rfl⟩ (fun r1 m1 hm1 => ?_)
      obtain ⟨rfl, rfl⟩ := hm1
      refine z_if_eq X dX8_fall_17 52 (by decide) (by omega) (fun h17 => ?_) (fun h17 => ?_)
      · refine z_iload X dX8_fall_52 rfl ?_
        refine z_ireturn (st := []) X rfl hQ dX8_fall_54 ⟨rfl, _, rfl, ?_⟩
        have hfa : zfalls c u v st k := by
          first
            | exact Or.inl (by assumption)
            | exact Or.inr (Or.inl (by assumption))
            | exact Or.inr (Or.inr ⟨by omega, (by rcases hm1 with h | h; exact h.2; exact absurd h.1 h49)⟩)
        rw [if_pos hfa] at hR
        rw [hR]
        exact hP
      · refine z_aload_n X dX8_fall_20 rfl ?_
        refine z_iload_n X dX8_fall_21 rfl ?_
        refine z_iconst X dX8_fall_22 ?_
        refine z_iload X dX8_fall_23 rfl ?_
        refine z_callVi X (As := [_, _, _]) dX8_fall_25 m_X8_value i_X8_value l_X8_108 (c_X8_value (zg E) hA hs hm 3 k rfl rfl rfl (by omega) (by omega)) (by first | assumption | exact zbigA.o (by assumption)) rfl rfl rfl (Nat.le_of_ble_eq_true rfl) ⟨Nat.le_of_ble_eq_true rfl, Nat.le_of_ble_eq_true rfl⟩ ⟨Nat.le_of_ble_eq_true rfl, Nat.le_of_ble_eq_true rfl⟩ ⟨rfl, rfl⟩ (fun r1 m1 hm1 => ?_)
        obtain ⟨rfl, rfl⟩ := hm1
        refine z_if_eq X dX8_fall_28 52 (by decide) (by omega) (fun h28 => ?_) (fun h28 => ?_)
        · refine z_iload X dX8_fall_52 rfl ?_
          refine z_ireturn (st := []) X rfl hQ dX8_fall_54 ⟨rfl, _, rfl, ?_⟩
          have hfa : zfalls c u v st k := by
            first
              | exact Or.inl (by assumption)
              | exact Or.inr (Or.inl (by assumption))
              | exact Or.inr (Or.inr ⟨by omega, (by rcases hm1 with h | h; exact h.2; exact absurd h.1 h49)⟩)
          rw [if_pos hfa] at hR
          rw [hR]
          exact hP
        · refine z_iload X dX8_fall_31 rfl ?_
          refine z_iload_n X dX8_fall_33 rfl ?_
          refine z_icmp_gt X dX8_fall_34 42 (by decide) (by omega) (by omega) (fun h34 => ?_) (fun h34 => ?_)
          · refine z_aload_n X dX8_fall_42 rfl ?_
            refine z_iload_n X dX8_fall_43 rfl ?_
            refine z_iload X dX8_fall_44 rfl ?_
            refine z_callVi X (As := [_, _]) dX8_fall_46 m_X8_isSteep i_X8_isSteep l_X8_123 (c_X8_isSteep (zg E) hA hs hm hc hb rfl rfl (by omega) (by omega)) (by first | assumption | exact zbigA.o (by assumption)) rfl rfl rfl (Nat.le_of_ble_eq_true rfl) ⟨Nat.le_of_ble_eq_true rfl, Nat.le_of_ble_eq_true rfl⟩ ⟨Nat.le_of_ble_eq_true rfl, Nat.le_of_ble_eq_true rfl⟩ ⟨rfl, rfl⟩ (fun r1 m1 hm1 => ?_)
            obtain ⟨rfl, hm1⟩ := hm1
            refine z_if_eq X dX8_fall_49 55 (by decide) (by omega) (fun h49 => ?_) (fun h49 => ?_)
            · refine z_iinc X dX8_fall_55 rfl (fun y => [_, _, _, _, _, some (vi y)]) (fun _ => rfl) (fun y hy => ?_)
              obtain rfl : y = ((k + 1 : Nat) : Int) := by omega
              refine z_goto X dX8_fall_58 3 (by decide) ?_
              refine ih (k + 1) (by omega) (by omega) ?_
              rw [if_neg ?_] at hR
              · exact hR
              · rintro (h | h | ⟨h, h'⟩)
                · exact h17 h
                · exact h28 h
                · first
                  | omega
                  | (rcases hm1 with g | g
                     · omega
                     · exact g.2 h')
            · refine z_iload X dX8_fall_52 rfl ?_
              refine z_ireturn (st := []) X rfl hQ dX8_fall_54 ⟨rfl, _, rfl, ?_⟩
              have hfa : zfalls c u v st k := by
                first
                  | exact Or.inl (by assumption)
                  | exact Or.inr (Or.inl (by assumption))
                  | exact Or.inr (Or.inr ⟨by omega, (by rcases hm1 with h | h; exact h.2; exact absurd h.1 h49)⟩)
              rw [if_pos hfa] at hR
              rw [hR]
              exact hP
          · refine z_iload X dX8_fall_37 rfl ?_
            refine z_if_eq X dX8_fall_39 55 (by decide) (by omega) (fun h39 => ?_) (fun h39 => ?_)
            · refine z_iinc X dX8_fall_55 rfl (fun y => [_, _, _, _, _, some (vi y)]) (fun _ => rfl) (fun y hy => ?_)
              obtain rfl : y = ((k + 1 : Nat) : Int) := by omega
              refine z_goto X dX8_fall_58 3 (by decide) ?_
              refine ih (k + 1) (by omega) (by omega) ?_
              rw [if_neg ?_] at hR
              · exact hR
              · rintro (h | h | ⟨h, h'⟩)
                · exact h17 h
                · exact h28 h
                · first
                  | omega
                  | (rcases hm1 with g | g
                     · omega
                     · exact g.2 h')
            · refine z_aload_n X dX8_fall_42 rfl ?_
              refine z_iload_n X dX8_fall_43 rfl ?_
              refine z_iload X dX8_fall_44 rfl ?_
              refine z_callVi X (As := [_, _]) dX8_fall_46 m_X8_isSteep i_X8_isSteep l_X8_123 (c_X8_isSteep (zg E) hA hs hm hc hb rfl rfl (by omega) (by omega)) (by first | assumption | exact zbigA.o (by assumption)) rfl rfl rfl (Nat.le_of_ble_eq_true rfl) ⟨Nat.le_of_ble_eq_true rfl, Nat.le_of_ble_eq_true rfl⟩ ⟨Nat.le_of_ble_eq_true rfl, Nat.le_of_ble_eq_true rfl⟩ ⟨rfl, rfl⟩ (fun r1 m1 hm1 => ?_)
              obtain ⟨rfl, hm1⟩ := hm1
              refine z_if_eq X dX8_fall_49 55 (by decide) (by omega) (fun h49 => ?_) (fun h49 => ?_)
              · refine z_iinc X dX8_fall_55 rfl (fun y => [_, _, _, _, _, some (vi y)]) (fun _ => rfl) (fun y hy => ?_)
                obtain rfl : y = ((k + 1 : Nat) : Int) := by omega
                refine z_goto X dX8_fall_58 3 (by decide) ?_
                refine ih (k + 1) (by omega) (by omega) ?_
                rw [if_neg ?_] at hR
                · exact hR
                · rintro (h | h | ⟨h, h'⟩)
                  · exact h17 h
                  · exact h28 h
                  · first
                    | omega
                    | (rcases hm1 with g | g
                       · omega
                       · exact g.2 h')
              · refine z_iload X dX8_fall_52 rfl ?_
                refine z_ireturn (st := []) X rfl hQ dX8_fall_54 ⟨rfl, _, rfl, ?_⟩
                have hfa : zfalls c u v st k := by
                  first
                    | exact Or.inl (by assumption)
                    | exact Or.inr (Or.inl (by assumption))
                    | exact Or.inr (Or.inr ⟨by omega, (by rcases hm1 with h | h; exact h.2; exact absurd h.1 h49)⟩)
                rw [if_pos hfa] at hR
                rw [hR]
                exact hP
theorem c_X8_fall (G : zG) {A : zA} {m : zM} {q s : Nat} {c : Nat → Nat → Int} {u v si ii ji ah : Int} (hA : zmodA A q) (hs : s < 6) (hm : zmsu m q s c u v) (hc : zcoef c) (hb : zbnd u v) (st i e : Nat) (hsi : si = (s : Int)) (hii : ii = (i : Int)) (hji : ji = (e : Int)) (hie : i ≤ e) (he : e ≤ 100) (hah : (ah = 0 ∧ st = i) ∨ (ah = 1 ∧ st < i)) : zMet G k_X8_fall [vr q, vi si, vi ii, vi ji, vi ah] A m (zpi A (fun r m' => m = m' ∧ r = zff c u v st i (e - i))) := by
  subst hsi hii hji
  obtain ⟨⟨hO0, f0, f1, f2, f3, f4, f5, f6, f7, f8, f9, f10, f11, f12, f16, f24, f25⟩, ⟨g1, g2, g3⟩, ⟨g4, g5, g6, g7, g8, g9⟩, ⟨g10, g11, g12, g13⟩, g14, g15, g16⟩ := id hA
  refine zMet.of RX8 rfl (by decide +kernel) (Nat.le_of_ble_eq_true rfl) [some (vr q), some (vi (s : Int)), some (vi (i : Int)), some (vi (e : Int)), some (vi ah), none] rfl (fun E hG X hQ hNm => ?_)
  subst hG
  refine z_iload_n X dX8_fall_0 rfl ?_
  refine z_istore X dX8_fall_1 (fun y => [_, _, _, _, _, some (vi y)]) (by decide) (fun _ => rfl) (fun x5_1 hx5_1 => ?_)
  subst hx5_1
  exact zl8_fall X hA hs hm hc hb he hah hQ ⟨rfl, rfl⟩ (e - i) i (by omega) (by omega) rfl
theorem c_X8_falls (G : zG) {A : zA} {m : zM} {q : Nat} {σ : zSt} {s n : Int} (hA : zmodA A q) (hm : zMR q m σ) (ho : zStok σ) (hs : zi32 s) (hn : zi32 n) : zMet G k_X8_falls [vr q, vi s, vi n] A m (zpi A (fun r m' => m = m' ∧ r = sp_falls σ s n)) := by
  obtain ⟨⟨hO0, f0, f1, f2, f3, f4, f5, f6, f7, f8, f9, f10, f11, f12, f16, f24, f25⟩, ⟨g1, g2, g3⟩, ⟨g4, g5, g6, g7, g8, g9⟩, ⟨g10, g11, g12, g13⟩, g14, g15, g16⟩ := id hA
  unfold zi32 at hs hn
  refine zMet.of RX8 rfl (by decide +kernel) (Nat.le_of_ble_eq_true rfl) [some (vr q), some (vi s), some (vi n)] rfl (fun E hG X hQ hNm => ?_)
  subst hG
  refine z_iload_n X dX8_falls_0 rfl ?_
  refine z_callSi X (As := [_]) dX8_falls_1 m_X8_isSum s_X8_isSum l_X8_90 (c_X8_isSum (zg E) hs) rfl rfl (Nat.le_of_ble_eq_true rfl) ⟨Nat.le_of_ble_eq_true rfl, Nat.le_of_ble_eq_true rfl⟩ ⟨Nat.le_of_ble_eq_true rfl, Nat.le_of_ble_eq_true rfl⟩ ⟨rfl, rfl⟩ (fun r1 m1 hm1 => ?_)
  obtain ⟨rfl, hr1⟩ := hm1
  refine z_if_ne X dX8_falls_4 9 (by decide) (by omega) (fun h4 => ?_) (fun h4 => ?_)
  · refine z_iload_n X dX8_falls_9 rfl ?_
    refine z_i2l X dX8_falls_10 (by omega) ?_
    refine z_lconst X dX8_falls_11 0 rfl ?_
    refine z_ldc2 X dX8_falls_12 q_X8_127 (100) (by decide) ?_
    refine z_callSi X (As := [_, _, _]) dX8_falls_15 m_X8_in s_X8_in l_X8_86 (c_X8_in (zg E) (by omega) (by omega) (by omega)) rfl rfl (Nat.le_of_ble_eq_true rfl) ⟨Nat.le_of_ble_eq_true rfl, Nat.le_of_ble_eq_true rfl⟩ ⟨Nat.le_of_ble_eq_true rfl, Nat.le_of_ble_eq_true rfl⟩ ⟨rfl, rfl⟩ (fun r2 m1 hm1 => ?_)
    obtain ⟨rfl, hr2⟩ := hm1
    refine z_if_eq X dX8_falls_18 32 (by decide) (by omega) (fun h18 => ?_) (fun h18 => ?_)
    · refine z_bipush X dX8_falls_32 (by decide) ?_
      refine z_ireturn (st := []) X rfl hQ dX8_falls_34 ⟨rfl, _, rfl, ?_⟩
      refine ⟨rfl, ?_⟩
      unfold sp_falls
      first
        | rw [if_neg (by omega), if_pos (by omega)]
        | (rw [if_neg (by omega), if_neg (by omega)]; exact hr4)
    · refine z_aload_n X dX8_falls_21 rfl ?_
      refine z_iload_n X dX8_falls_22 rfl ?_
      refine z_iconst X dX8_falls_23 ?_
      refine z_iload_n X dX8_falls_24 rfl ?_
      refine z_iconst X dX8_falls_25 ?_
      refine z_callVi X (As := [_, _, _, _]) dX8_falls_26 m_X8_fall i_X8_fall l_X8_129 (c_X8_fall (zg E) (s := s.toNat) hA (by omega) (hm.1 s.toNat (by omega)) (ho.1 s.toNat (by omega)).1 (ho.1 s.toNat (by omega)).2 0 0 n.toNat (by omega) rfl (by omega) (by omega) (by omega) (Or.inl ⟨rfl, rfl⟩)) (by first | assumption | exact zbigA.o (by assumption)) rfl rfl rfl (Nat.le_of_ble_eq_true rfl) ⟨Nat.le_of_ble_eq_true rfl, Nat.le_of_ble_eq_true rfl⟩ ⟨Nat.le_of_ble_eq_true rfl, Nat.le_of_ble_eq_true rfl⟩ ⟨rfl, rfl⟩ (fun r4 m1 hm1 => ?_)
      obtain ⟨rfl, hr4⟩ := hm1
      refine z_goto X dX8_falls_29 34 (by decide) ?_
      refine z_ireturn (st := []) X rfl hQ dX8_falls_34 ⟨rfl, _, rfl, ?_⟩
      refine ⟨rfl, ?_⟩
      unfold sp_falls
      first
        | rw [if_neg (by omega), if_pos (by omega)]
        | (rw [if_neg (by omega), if_neg (by omega)]; exact hr4)
  · refine z_iconst X dX8_falls_7 ?_
    refine z_ireturn (st := []) X rfl hQ dX8_falls_8 ⟨rfl, _, rfl, ?_⟩
    refine ⟨rfl, ?_⟩
    unfold sp_falls
    rw [if_pos (by omega)]

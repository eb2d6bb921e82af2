/-! Grinder -/
/-- the span's own fields but 'to' -/
def zkp (m0 m : zM) (d : Nat) : Prop := ∀ j, j ≠ 7 → m d j = m0 d j
theorem zkp.k {m0 m m' : zM} {d q : Nat} (h : zkp m0 m d) (hf : zfr m m' q) (hd : d ≠ q ∧ d ≠ q + 1) : zkp m0 m' d := fun j hj => (hf d j hd.1 hd.2).trans (h j hj)
theorem zl_goOn {E : zCx} (X : zOK E cX4_goOn RX4 8 none k_X4_goOn.2.2.2.2) {A : zA} {d g s n0 k0 e : Nat} {m0 : zM} {c : Nat → Nat → Int} {u v : Int} {z : zq4} (hD : zspanA A d) (hG : zgrA A g) (hS : zsumA A s) (hc : zcoef c) (hdg : d + 9 ≤ g ∨ g + 9 ≤ d) (hsd : s + 4 ≤ d ∨ d + 9 ≤ s) (hsg : s + 4 ≤ g ∨ g + 9 ≤ s) (hz : zok n0 z) (hke : k0 ≤ e) (he : e ≤ 100) (hn : n0 + (e - k0) ≤ 100)
    (K : ∀ (m' : zM) (l5 l6 l7 : Option Value), zspn m' d (zgo c k0 z (e - k0)) → zsumM m' s c u v → m' d 7 = (e : Int) → zkp m0 m' d → zout m0 m' d g → (e ≠ k0 → zbi m' (g + 3) 170 (zadd c (e - 1) (zgo c k0 z (e - 1 - k0)))) → zW E (0, 0) A m' 167 [some (vr g), some (vr d), some (vr s), some (vi (e : Int)), some (vi (e : Int)), l5, l6, l7] []) :
    ∀ (r i : Nat) (m : zM) (l5 l6 l7 : Option Value), k0 + i + r = e → zspn m d (zgo c k0 z i) → zbi m (g + 1) 170 ((zgo c k0 z i).1 * (zgo c k0 z i).2.2.1) → zsumM m s c u v → zfd m d 7 ((k0 + i : Nat) : Int) → zkp m0 m d → zout m0 m d g → (i ≠ 0 → zbi m (g + 3) 170 (zadd c (k0 + i - 1) (zgo c k0 z (i - 1)))) → zW E (0, 0) A m 21 [some (vr g), some (vr d), some (vr s), some (vi (e : Int)), some (vi ((k0 + i : Nat) : Int)), l5, l6, l7] [] := by
  obtain ⟨hD1, ⟨hD2, hD3, hD4, hD5⟩, hb1, hb2, hb3, hb4⟩ := hD
  obtain ⟨hG1, ⟨hG2, hG3, hG4, hG5⟩, hg1, hg2, hg3, hg4⟩ := hG
  obtain ⟨hS1, ⟨hS2, hS3, hS4⟩, hS5, hS6, hS7⟩ := id hS
  intro r
  induction r with
  | zero =>
    intro i m l5 l6 l7 hi hsp hah hsm hto hkp hF hadd
    obtain rfl : k0 + i = e := by omega
    have hto' : m d 7 = _ := hto
    refine z_iload X dX4_goOn_21 rfl ?_
    refine z_iload_n X dX4_goOn_23 rfl ?_
    refine z_icmp_ge X dX4_goOn_24 167 (by decide) (by omega) (by omega) (fun h24 => ?_) (fun h24 => ?_)
    · refine K m l5 l6 l7 ?_ hsm hto' hkp hF (fun h => ?_)
      · rw [Nat.add_sub_cancel_left]; exact hsp
      · rw [show k0 + i - 1 - k0 = i - 1 by omega]; exact hadd (by omega)
    · exact absurd h24 (by omega)
  | succ r ih =>
    intro i m l5 l6 l7 hi hsp hah hsm hto hkp hF hadd
    obtain ⟨hp, hq, hb, ht⟩ := hsp
    have hk100 : k0 + i < 100 := by omega
    have hzi := zok_go hc hz (k := k0) (d := i) (by omega)
    have p0 := zle_pval hc (w := 0) (k := k0 + i) (by omega) hk100
    have p1 := zle_pval hc (w := 1) (k := k0 + i) (by omega) hk100
    have p2 := zle_pval hc (w := 2) (k := k0 + i) (by omega) hk100
    have p3 := zle_pval hc (w := 3) (k := k0 + i) (by omega) hk100
    have b0 := zpval_bd hc (w := 0) (k := k0 + i) (by omega) hk100
    have b1 := zpval_bd hc (w := 1) (k := k0 + i) (by omega) hk100
    have b2 := zpval_bd hc (w := 2) (k := k0 + i) (by omega) hk100
    have b3 := zpval_bd hc (w := 3) (k := k0 + i) (by omega) hk100
    have hzt := hzi.t (by omega)
    obtain ⟨z1, z2, z3, z4⟩ := id hzi
    have f1 := z1.mul z3
    have f2 := f1.mul p0
    have f3 := f2.mul p2
    have f4 := f2.mul p3
    have f5 := hzt.mul p1
    have f6 := f5.mul p3
    have f7 := zok_step hc hzi (k := k0 + i) hk100
    have f7t := f7.t (by omega)
    have g1 := f7.1
    have g2 := f7.2.1
    have g3 := f7.2.2.1
    have f8 : zle (zadd c (k0 + i) (zgo c k0 z i)) (24 * (n0 + i) + 24 * (n0 + i) + 24 + 24) := f3
    refine z_iload X dX4_goOn_21 rfl ?_
    refine z_iload_n X dX4_goOn_23 rfl ?_
    refine z_icmp_ge X dX4_goOn_24 167 (by decide) (by omega) (by omega) (fun h24 => ?_) (fun h24 => ?_)
    · exact absurd h24 (by omega)
    · refine z_aload_n X dX4_goOn_27 rfl ?_
      refine z_iconst X dX4_goOn_28 ?_
      refine z_iload X dX4_goOn_29 rfl ?_
      refine z_callVi X (As := [_, _]) dX4_goOn_31 m_X6_value i_X6_value l_X4_45 (c_X6_value (zg E) hS hsm hc 0 (k0 + i) rfl rfl (by omega) hk100) (by first | assumption | exact zbigA.o (by assumption)) rfl rfl rfl (Nat.le_of_ble_eq_true rfl) ⟨Nat.le_of_ble_eq_true rfl, Nat.le_of_ble_eq_true rfl⟩ ⟨Nat.le_of_ble_eq_true rfl, Nat.le_of_ble_eq_true rfl⟩ ⟨rfl, rfl⟩ (fun r1 m1 hm1 => ?_)
      obtain ⟨rfl, rfl⟩ := hm1
      refine z_istore X dX4_goOn_34 (fun y => [_, _, _, _, _, some (vi y), _, _]) (by decide) (fun _ => rfl) (fun x5_34 hx5_34 => ?_)
      subst hx5_34
      refine z_aload_n X dX4_goOn_36 rfl ?_
      refine z_iconst X dX4_goOn_37 ?_
      refine z_iload X dX4_goOn_38 rfl ?_
      refine z_callVi X (As := [_, _]) dX4_goOn_40 m_X6_value i_X6_value l_X4_45 (c_X6_value (zg E) hS hsm hc 1 (k0 + i) rfl rfl (by omega) hk100) (by first | assumption | exact zbigA.o (by assumption)) rfl rfl rfl (Nat.le_of_ble_eq_true rfl) ⟨Nat.le_of_ble_eq_true rfl, Nat.le_of_ble_eq_true rfl⟩ ⟨Nat.le_of_ble_eq_true rfl, Nat.le_of_ble_eq_true rfl⟩ ⟨rfl, rfl⟩ (fun r1 m1 hm1 => ?_)
      obtain ⟨rfl, rfl⟩ := hm1
      refine z_istore X dX4_goOn_43 (fun y => [_, _, _, _, _, _, some (vi y), _]) (by decide) (fun _ => rfl) (fun x6_43 hx6_43 => ?_)
      subst hx6_43
      refine z_aload_n X dX4_goOn_45 rfl ?_
      refine z_iconst X dX4_goOn_46 ?_
      refine z_iload X dX4_goOn_47 rfl ?_
      refine z_callVi X (As := [_, _]) dX4_goOn_49 m_X6_value i_X6_value l_X4_45 (c_X6_value (zg E) hS hsm hc 3 (k0 + i) rfl rfl (by omega) hk100) (by first | assumption | exact zbigA.o (by assumption)) rfl rfl rfl (Nat.le_of_ble_eq_true rfl) ⟨Nat.le_of_ble_eq_true rfl, Nat.le_of_ble_eq_true rfl⟩ ⟨Nat.le_of_ble_eq_true rfl, Nat.le_of_ble_eq_true rfl⟩ ⟨rfl, rfl⟩ (fun r1 m1 hm1 => ?_)
      obtain ⟨rfl, rfl⟩ := hm1
      refine z_istore X dX4_goOn_52 (fun y => [_, _, _, _, _, _, _, some (vi y)]) (by decide) (fun _ => rfl) (fun x7_52 hx7_52 => ?_)
      subst hx7_52
      refine z_aload_n X dX4_goOn_54 rfl ?_
      refine z_getR X dX4_goOn_55 f_X4_14 rfl (by assumption) (by assumption) ?_
      refine z_iload X dX4_goOn_58 rfl ?_
      refine z_callVv X (As := [_]) dX4_goOn_60 m_X0_times i_X0_times l_X4_51 (c_X0_times (zg E) hg1 hah (by omega) (f2.lt (by omega))) (by first | assumption | exact zbigA.o (by assumption)) rfl rfl rfl (Nat.le_of_ble_eq_true rfl) ⟨Nat.le_of_ble_eq_true rfl, Nat.le_of_ble_eq_true rfl⟩ ⟨Nat.le_of_ble_eq_true rfl, Nat.le_of_ble_eq_true rfl⟩ ⟨rfl, rfl⟩ (fun m1 hm => ?_)
      obtain ⟨hah, hf⟩ := hm
      have hp := hp.k hf (by omega)
      have hq := hq.k hf (by omega)
      have hb := hb.k hf (by omega)
      have ht := ht.k hf (by omega)
      have hsm := hsm.k hf (by omega)
      have hto := hto.k hf (by omega)
      have hkp := hkp.k hf (by omega)
      have hF := hF.k hf (by omega)
      refine z_aload_n X dX4_goOn_63 rfl ?_
      refine z_getR X dX4_goOn_64 f_X4_20 rfl (by assumption) (by assumption) ?_
      refine z_aload_n X dX4_goOn_67 rfl ?_
      refine z_getR X dX4_goOn_68 f_X4_14 rfl (by assumption) (by assumption) ?_
      refine z_callVv X (As := [_]) dX4_goOn_71 m_X0_copy i_X0_copy l_X4_54 (c_X0_copy (zg E) hg2 hg1 (by omega) hah (f2.lt (by omega))) (by first | assumption | exact zbigA.o (by assumption)) rfl rfl rfl (Nat.le_of_ble_eq_true rfl) ⟨Nat.le_of_ble_eq_true rfl, Nat.le_of_ble_eq_true rfl⟩ ⟨Nat.le_of_ble_eq_true rfl, Nat.le_of_ble_eq_true rfl⟩ ⟨rfl, rfl⟩ (fun m2 hm => ?_)
      obtain ⟨had, hf⟩ := hm
      have hp := hp.k hf (by omega)
      have hq := hq.k hf (by omega)
      have hb := hb.k hf (by omega)
      have ht := ht.k hf (by omega)
      have hsm := hsm.k hf (by omega)
      have hto := hto.k hf (by omega)
      have hkp := hkp.k hf (by omega)
      have hF := hF.k hf (by omega)
      have hah := hah.k hf (by omega)
      refine z_aload_n X dX4_goOn_74 rfl ?_
      refine z_getR X dX4_goOn_75 f_X4_20 rfl (by assumption) (by assumption) ?_
      refine z_aload_n X dX4_goOn_78 rfl ?_
      refine z_iconst X dX4_goOn_79 ?_
      refine z_iload X dX4_goOn_80 rfl ?_
      refine z_callVi X (As := [_, _]) dX4_goOn_82 m_X6_value i_X6_value l_X4_45 (c_X6_value (zg E) hS hsm hc 2 (k0 + i) rfl rfl (by omega) hk100) (by first | assumption | exact zbigA.o (by assumption)) rfl rfl rfl (Nat.le_of_ble_eq_true rfl) ⟨Nat.le_of_ble_eq_true rfl, Nat.le_of_ble_eq_true rfl⟩ ⟨Nat.le_of_ble_eq_true rfl, Nat.le_of_ble_eq_true rfl⟩ ⟨rfl, rfl⟩ (fun r1 m1 hm1 => ?_)
      obtain ⟨rfl, rfl⟩ := hm1
      refine z_callVv X (As := [_]) dX4_goOn_85 m_X0_times i_X0_times l_X4_51 (c_X0_times (zg E) hg2 had (by omega) (f3.lt (by omega))) (by first | assumption | exact zbigA.o (by assumption)) rfl rfl rfl (Nat.le_of_ble_eq_true rfl) ⟨Nat.le_of_ble_eq_true rfl, Nat.le_of_ble_eq_true rfl⟩ ⟨Nat.le_of_ble_eq_true rfl, Nat.le_of_ble_eq_true rfl⟩ ⟨rfl, rfl⟩ (fun m3 hm => ?_)
      obtain ⟨had, hf⟩ := hm
      have hp := hp.k hf (by omega)
      have hq := hq.k hf (by omega)
      have hb := hb.k hf (by omega)
      have ht := ht.k hf (by omega)
      have hsm := hsm.k hf (by omega)
      have hto := hto.k hf (by omega)
      have hkp := hkp.k hf (by omega)
      have hF := hF.k hf (by omega)
      have hah := hah.k hf (by omega)
      refine z_aload_n X dX4_goOn_88 rfl ?_
      refine z_getR X dX4_goOn_89 f_X4_14 rfl (by assumption) (by assumption) ?_
      refine z_iload X dX4_goOn_92 rfl ?_
      refine z_callVv X (As := [_]) dX4_goOn_94 m_X0_times i_X0_times l_X4_51 (c_X0_times (zg E) hg1 hah (by omega) (f4.lt (by omega))) (by first | assumption | exact zbigA.o (by assumption)) rfl rfl rfl (Nat.le_of_ble_eq_true rfl) ⟨Nat.le_of_ble_eq_true rfl, Nat.le_of_ble_eq_true rfl⟩ ⟨Nat.le_of_ble_eq_true rfl, Nat.le_of_ble_eq_true rfl⟩ ⟨rfl, rfl⟩ (fun m4 hm => ?_)
      obtain ⟨hah, hf⟩ := hm
      have hp := hp.k hf (by omega)
      have hq := hq.k hf (by omega)
      have hb := hb.k hf (by omega)
      have ht := ht.k hf (by omega)
      have hsm := hsm.k hf (by omega)
      have hto := hto.k hf (by omega)
      have hkp := hkp.k hf (by omega)
      have hF := hF.k hf (by omega)
      have had := had.k hf (by omega)
      refine z_aload_n X dX4_goOn_97 rfl ?_
      refine z_getR X dX4_goOn_98 f_X4_58 rfl (by assumption) (by assumption) ?_
      refine z_iload X dX4_goOn_101 rfl ?_
      refine z_callVv X (As := [_]) dX4_goOn_103 m_X0_times i_X0_times l_X4_51 (c_X0_times (zg E) hb4 ht (by omega) (f5.lt (by omega))) (by first | assumption | exact zbigA.o (by assumption)) rfl rfl rfl (Nat.le_of_ble_eq_true rfl) ⟨Nat.le_of_ble_eq_true rfl, Nat.le_of_ble_eq_true rfl⟩ ⟨Nat.le_of_ble_eq_true rfl, Nat.le_of_ble_eq_true rfl⟩ ⟨rfl, rfl⟩ (fun m5 hm => ?_)
      obtain ⟨ht, hf⟩ := hm
      have hp := hp.k hf (by omega)
      have hq := hq.k hf (by omega)
      have hb := hb.k hf (by omega)
      have hah := hah.k hf (by omega)
      have hsm := hsm.k hf (by omega)
      have hto := hto.k hf (by omega)
      have hkp := hkp.k hf (by omega)
      have hF := hF.k hf (by omega)
      have had := had.k hf (by omega)
      refine z_aload_n X dX4_goOn_106 rfl ?_
      refine z_getR X dX4_goOn_107 f_X4_58 rfl (by assumption) (by assumption) ?_
      refine z_iload X dX4_goOn_110 rfl ?_
      refine z_callVv X (As := [_]) dX4_goOn_112 m_X0_times i_X0_times l_X4_51 (c_X0_times (zg E) hb4 ht (by omega) (f6.lt (by omega))) (by first | assumption | exact zbigA.o (by assumption)) rfl rfl rfl (Nat.le_of_ble_eq_true rfl) ⟨Nat.le_of_ble_eq_true rfl, Nat.le_of_ble_eq_true rfl⟩ ⟨Nat.le_of_ble_eq_true rfl, Nat.le_of_ble_eq_true rfl⟩ ⟨rfl, rfl⟩ (fun m6 hm => ?_)
      obtain ⟨ht, hf⟩ := hm
      have hp := hp.k hf (by omega)
      have hq := hq.k hf (by omega)
      have hb := hb.k hf (by omega)
      have hah := hah.k hf (by omega)
      have hsm := hsm.k hf (by omega)
      have hto := hto.k hf (by omega)
      have hkp := hkp.k hf (by omega)
      have hF := hF.k hf (by omega)
      have had := had.k hf (by omega)
      refine z_aload_n X dX4_goOn_115 rfl ?_
      refine z_getR X dX4_goOn_116 f_X4_58 rfl (by assumption) (by assumption) ?_
      refine z_aload_n X dX4_goOn_119 rfl ?_
      refine z_getR X dX4_goOn_120 f_X4_20 rfl (by assumption) (by assumption) ?_
      refine z_callVv X (As := [_]) dX4_goOn_123 m_X0_plus i_X0_plus l_X4_61 (c_X0_plus (zg E) hb4 hg2 (by omega) ht had (f8.lt (by omega)) (f7t.lt (by omega))) (by first | assumption | exact zbigA.o (by assumption)) rfl rfl rfl (Nat.le_of_ble_eq_true rfl) ⟨Nat.le_of_ble_eq_true rfl, Nat.le_of_ble_eq_true rfl⟩ ⟨Nat.le_of_ble_eq_true rfl, Nat.le_of_ble_eq_true rfl⟩ ⟨rfl, rfl⟩ (fun m7 hm => ?_)
      obtain ⟨ht, hf⟩ := hm
      have hp := hp.k hf (by omega)
      have hq := hq.k hf (by omega)
      have hb := hb.k hf (by omega)
      have hah := hah.k hf (by omega)
      have hsm := hsm.k hf (by omega)
      have hto := hto.k hf (by omega)
      have hkp := hkp.k hf (by omega)
      have hF := hF.k hf (by omega)
      have had := had.k hf (by omega)
      refine z_aload_n X dX4_goOn_126 rfl ?_
      refine z_getR X dX4_goOn_127 f_X4_29 rfl (by assumption) (by assumption) ?_
      refine z_iload X dX4_goOn_130 rfl ?_
      refine z_callVv X (As := [_]) dX4_goOn_132 m_X0_times i_X0_times l_X4_51 (c_X0_times (zg E) hb1 hp (by omega) (g1.lt (by omega))) (by first | assumption | exact zbigA.o (by assumption)) rfl rfl rfl (Nat.le_of_ble_eq_true rfl) ⟨Nat.le_of_ble_eq_true rfl, Nat.le_of_ble_eq_true rfl⟩ ⟨Nat.le_of_ble_eq_true rfl, Nat.le_of_ble_eq_true rfl⟩ ⟨rfl, rfl⟩ (fun m8 hm => ?_)
      obtain ⟨hp, hf⟩ := hm
      have ht := ht.k hf (by omega)
      have hq := hq.k hf (by omega)
      have hb := hb.k hf (by omega)
      have hah := hah.k hf (by omega)
      have hsm := hsm.k hf (by omega)
      have hto := hto.k hf (by omega)
      have hkp := hkp.k hf (by omega)
      have hF := hF.k hf (by omega)
      have had := had.k hf (by omega)
      refine z_aload_n X dX4_goOn_135 rfl ?_
      refine z_getR X dX4_goOn_136 f_X4_64 rfl (by assumption) (by assumption) ?_
      refine z_iload X dX4_goOn_139 rfl ?_
      refine z_callVv X (As := [_]) dX4_goOn_141 m_X0_times i_X0_times l_X4_51 (c_X0_times (zg E) hb2 hq (by omega) (g2.lt (by omega))) (by first | assumption | exact zbigA.o (by assumption)) rfl rfl rfl (Nat.le_of_ble_eq_true rfl) ⟨Nat.le_of_ble_eq_true rfl, Nat.le_of_ble_eq_true rfl⟩ ⟨Nat.le_of_ble_eq_true rfl, Nat.le_of_ble_eq_true rfl⟩ ⟨rfl, rfl⟩ (fun m9 hm => ?_)
      obtain ⟨hq, hf⟩ := hm
      have ht := ht.k hf (by omega)
      have hp := hp.k hf (by omega)
      have hb := hb.k hf (by omega)
      have hah := hah.k hf (by omega)
      have hsm := hsm.k hf (by omega)
      have hto := hto.k hf (by omega)
      have hkp := hkp.k hf (by omega)
      have hF := hF.k hf (by omega)
      have had := had.k hf (by omega)
      refine z_aload_n X dX4_goOn_144 rfl ?_
      refine z_getR X dX4_goOn_145 f_X4_34 rfl (by assumption) (by assumption) ?_
      refine z_iload X dX4_goOn_148 rfl ?_
      refine z_callVv X (As := [_]) dX4_goOn_150 m_X0_times i_X0_times l_X4_51 (c_X0_times (zg E) hb3 hb (by omega) (g3.lt (by omega))) (by first | assumption | exact zbigA.o (by assumption)) rfl rfl rfl (Nat.le_of_ble_eq_true rfl) ⟨Nat.le_of_ble_eq_true rfl, Nat.le_of_ble_eq_true rfl⟩ ⟨Nat.le_of_ble_eq_true rfl, Nat.le_of_ble_eq_true rfl⟩ ⟨rfl, rfl⟩ (fun m10 hm => ?_)
      obtain ⟨hb, hf⟩ := hm
      have ht := ht.k hf (by omega)
      have hp := hp.k hf (by omega)
      have hq := hq.k hf (by omega)
      have hah := hah.k hf (by omega)
      have hsm := hsm.k hf (by omega)
      have hto := hto.k hf (by omega)
      have hkp := hkp.k hf (by omega)
      have hF := hF.k hf (by omega)
      have had := had.k hf (by omega)
      refine z_aload_n X dX4_goOn_153 rfl ?_
      refine z_iload X dX4_goOn_154 rfl ?_
      refine z_iconst X dX4_goOn_156 ?_
      refine z_iadd X dX4_goOn_157 ?_
      refine z_putI X dX4_goOn_158 f_X4_41 rfl rfl (by assumption) ?_
      refine z_iinc X dX4_goOn_161 rfl (fun y => [_, _, _, _, some (vi y), _, _, _]) (fun _ => rfl) (fun x4_161 hx4_161 => ?_)
      obtain rfl : x4_161 = ((k0 + (i + 1) : Nat) : Int) := by omega
      refine z_goto X dX4_goOn_164 21 (by decide) ?_
      refine ih (i + 1) _ _ _ _ (by omega) ⟨hp.w (by omega), hq.w (by omega), hb.w (by omega), ht.w (by omega)⟩ ?_ (hsm.w (by omega)) ?_ (fun j hj => (zms_nk _ _ _ _ _ hj).trans (hkp j hj)) (hF.w (by omega)) (fun _ => ?_)
      · have e : (zgo c k0 z (i + 1)).1 * (zgo c k0 z (i + 1)).2.2.1 = (zgo c k0 z i).1 * (zgo c k0 z i).2.2.1 * zpval c 0 (k0 + i) * zpval c 3 (k0 + i) := by
          show (zgo c k0 z i).1 * zpval c 0 (k0 + i) * ((zgo c k0 z i).2.2.1 * zpval c 3 (k0 + i)) = _
          grind
        rw [e]
        exact hah.w (by omega)
      · show zms m10 d 7 _ d 7 = _
        rw [zms_same]
        omega
      · rw [Nat.add_sub_cancel, show k0 + (i + 1) - 1 = k0 + i by omega]
        exact had.w (by omega)
theorem c_X4_goOn (G : zG) {A : zA} {m : zM} {d g s n0 k0 e : Nat} {ei : Int} {c : Nat → Nat → Int} {u v : Int} {z : zq4} (hei : ei = (e : Int)) (hD : zspanA A d) (hG : zgrA A g) (hS : zsumA A s) (hc : zcoef c) (hdg : d + 9 ≤ g ∨ g + 9 ≤ d) (hsd : s + 4 ≤ d ∨ d + 9 ≤ s) (hsg : s + 4 ≤ g ∨ g + 9 ≤ s) (hz : zok n0 z) (hke : k0 ≤ e) (he : e ≤ 100) (hn : n0 + (e - k0) ≤ 100) (hsp : zspn m d z) (hsm : zsumM m s c u v) (hto : m d 7 = (k0 : Int)) :
    zMet G k_X4_goOn [vr g, vr d, vr s, vi ei] A m (zpv A (fun m' => zspn m' d (zgo c k0 z (e - k0)) ∧ m' d 7 = (e : Int) ∧ zkp m m' d ∧ zout m m' d g ∧ (e ≠ k0 → zbi m' (g + 3) 170 (zadd c (e - 1) (zgo c k0 z (e - 1 - k0)))))) := by
  obtain ⟨hD1, ⟨hD2, hD3, hD4, hD5⟩, hb1, hb2, hb3, hb4⟩ := id hD
  obtain ⟨hG1, ⟨hG2, hG3, hG4, hG5⟩, hg1, hg2, hg3, hg4⟩ := id hG
  obtain ⟨hp, hq, hb, ht⟩ := hsp
  subst hei
  have hto : zfd m d 7 (k0 : Int) := hto
  have hkp : zkp m m d := fun _ _ => rfl
  have hF : zout m m d g := fun _ _ _ _ => rfl
  refine zMet.of RX4 rfl (by decide +kernel) (Nat.le_of_ble_eq_true rfl) [some (vr g), some (vr d), some (vr s), some (vi (e : Int)), none, none, none, none] rfl (fun E hG X hQ hNm => ?_)
  subst hG
  refine z_aload_n X dX4_goOn_0 rfl ?_
  refine z_getR X dX4_goOn_1 f_X4_14 rfl (by assumption) (by assumption) ?_
  refine z_aload_n X dX4_goOn_4 rfl ?_
  refine z_getR X dX4_goOn_5 f_X4_29 rfl (by assumption) (by assumption) ?_
  refine z_aload_n X dX4_goOn_8 rfl ?_
  refine z_getR X dX4_goOn_9 f_X4_34 rfl (by assumption) (by assumption) ?_
  refine z_callVv X (As := [_, _]) dX4_goOn_12 m_X0_product i_X0_product l_X4_37 (c_X0_product (zg E) hg1 hb1 hb3 (by omega) (by omega) hp hb hp.lt hb.lt (by omega)) (by first | assumption | exact zbigA.o (by assumption)) rfl rfl rfl (Nat.le_of_ble_eq_true rfl) ⟨Nat.le_of_ble_eq_true rfl, Nat.le_of_ble_eq_true rfl⟩ ⟨Nat.le_of_ble_eq_true rfl, Nat.le_of_ble_eq_true rfl⟩ ⟨rfl, rfl⟩ (fun m1 hm => ?_)
  obtain ⟨hah, hf⟩ := hm
  have ht := ht.k hf (by omega)
  have hp := hp.k hf (by omega)
  have hq := hq.k hf (by omega)
  have hb := hb.k hf (by omega)
  have hsm := hsm.k hf (by omega)
  have hto := hto.k hf (by omega)
  have hkp := hkp.k hf (by omega)
  have hF := hF.k hf (by omega)
  have hto' : m1 d 7 = _ := hto
  refine z_aload_n X dX4_goOn_15 rfl ?_
  refine z_getI X dX4_goOn_16 f_X4_41 rfl (by assumption) ?_
  refine z_istore X dX4_goOn_19 (fun y => [_, _, _, _, some (vi y), _, _, _]) (by decide) (fun _ => rfl) (fun x4_19 hx4_19 => ?_)
  obtain rfl : x4_19 = ((k0 + 0 : Nat) : Int) := by omega
  refine zl_goOn X hD hG hS hc hdg hsd hsg hz hke he hn (m0 := m) (fun m' l5 l6 l7 w1 w2 w3 w4 w5 w6 => ?_) (e - k0) 0 m1 none none none (by omega) ⟨hp, hq, hb, ht⟩ hah hsm hto hkp hF (fun h => absurd rfl h)
  refine z_return (st := []) X rfl hQ dX4_goOn_167 ⟨rfl, rfl, ?_⟩
  exact ⟨w1, w3, w4, w5, w6⟩
theorem c_X4_multiplyInto (G : zG) {A : zA} {m : zM} {g x y q N M1 M2 s t : Nat} {v w : Int} (hG : zgrA A g) (hX : zbigA A x M1) (hY : zbigA A y M2) (hQ0 : zbigA A q N) (hx : x ≠ g + 3) (hy : y ≠ g + 3) (hq : q ≠ g + 3) (hb : zbi m x M1 v) (hc : zbi m y M2 w) (hv : (v.natAbs : Int) < 1073741824 ^ s) (hw : (w.natAbs : Int) < 1073741824 ^ t) (hst : s + t ≤ 170) (hfit : ((v * w).natAbs : Int) < 1073741824 ^ N) :
    zMet G k_X4_multiplyInto [vr g, vr x, vr y, vr q] A m (zpv A (fun m' => zbi m' q N (v * w) ∧ ∀ a j, a ≠ q → a ≠ q + 1 → a ≠ g + 3 → a ≠ g + 4 → m' a j = m a j)) := by
  obtain ⟨hG1, ⟨hG2, hG3, hG4, hG5⟩, hg1, hg2, hg3, hg4⟩ := id hG
  refine zMet.of RX4 rfl (by decide +kernel) (Nat.le_of_ble_eq_true rfl) [some (vr g), some (vr x), some (vr y), some (vr q)] rfl (fun E hG X hQ hNm => ?_)
  subst hG
  refine z_aload_n X dX4_multiplyInto_0 rfl ?_
  refine z_getR X dX4_multiplyInto_1 f_X4_20 rfl (by assumption) (by assumption) ?_
  refine z_aload_n X dX4_multiplyInto_4 rfl ?_
  refine z_aload_n X dX4_multiplyInto_5 rfl ?_
  refine z_callVv X (As := [_, _]) dX4_multiplyInto_6 m_X0_product i_X0_product l_X4_37 (c_X0_product (zg E) hg2 hX hY hx hy hb hc hv hw hst) (by first | assumption | exact zbigA.o (by assumption)) rfl rfl rfl (Nat.le_of_ble_eq_true rfl) ⟨Nat.le_of_ble_eq_true rfl, Nat.le_of_ble_eq_true rfl⟩ ⟨Nat.le_of_ble_eq_true rfl, Nat.le_of_ble_eq_true rfl⟩ ⟨rfl, rfl⟩ (fun m1 hm => ?_)
  obtain ⟨ha, hf⟩ := hm
  refine z_aload_n X dX4_multiplyInto_9 rfl ?_
  refine z_aload_n X dX4_multiplyInto_10 rfl ?_
  refine z_getR X dX4_multiplyInto_11 f_X4_20 rfl (by assumption) (by assumption) ?_
  refine z_callVv X (As := [_]) dX4_multiplyInto_14 m_X0_copy i_X0_copy l_X4_54 (c_X0_copy (zg E) hQ0 hg2 (by omega) ha hfit) (by first | assumption | exact zbigA.o (by assumption)) rfl rfl rfl (Nat.le_of_ble_eq_true rfl) ⟨Nat.le_of_ble_eq_true rfl, Nat.le_of_ble_eq_true rfl⟩ ⟨Nat.le_of_ble_eq_true rfl, Nat.le_of_ble_eq_true rfl⟩ ⟨rfl, rfl⟩ (fun m2 hm => ?_)
  refine z_return (st := []) X rfl hQ dX4_multiplyInto_17 ⟨rfl, rfl, ?_⟩
  exact ⟨hm.1, fun a j h1 h2 h3 h4 => (hm.2 a j h1 h2).trans (hf a j h3 h4)⟩

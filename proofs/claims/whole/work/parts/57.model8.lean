/-! The model: begin, go, grind, more, join, empty, span -/
theorem zsP.k {q : Nat} {S U : Nat → Prop} {m m1 m2 : zM} (h : zsP q U m m1) (hf : zsP q S m1 m2) (hd : ∀ x, S x → U x) : zsP q U m m2 := h.tt hf (fun _ k => k) hd
theorem zmsu.k {q s : Nat} {S : Nat → Prop} {m m' : zM} {c : Nat → Nat → Int} {u v : Int} (h : zmsu m q s c u v) (hf : zsP q S m m') (_ : (0 : Nat) = 0) : zmsu m' q s c u v := h.e (fun a j _ _ => hf.1 a j (by omega))
theorem zsl.w {q a k x : Nat} {v y : Int} {m : zM} (h : zsl m q x v) (ha : a < q + 1 ∨ q + 3 < a) : zsl (zms m a k y) q x v := h.q (zSq_nq ha)
def zsp4 (m : zM) (q a : Nat) (z : zq4) : Prop := zsl m q a z.1 ∧ zsl m q (a + 1) z.2.1 ∧ zsl m q (a + 2) z.2.2.1 ∧ zsl m q (a + 3) z.2.2.2
theorem zsp4.k {q a : Nat} {S : Nat → Prop} {m m' : zM} {z : zq4} (h : zsp4 m q a z) (hf : zsP q S m m') (hd : ¬ S a ∧ ¬ S (a + 1) ∧ ¬ S (a + 2) ∧ ¬ S (a + 3)) : zsp4 m' q a z := ⟨h.1.k hf hd.1, h.2.1.k hf hd.2.1, h.2.2.1.k hf hd.2.2.1, h.2.2.2.k hf hd.2.2.2⟩
theorem c_X8_begin (G : zG) {A : zA} {m : zM} {q a : Nat} {ai : Int} (hA : zmodA A q) (hai : ai = (a : Int)) (ha : a + 3 < 60) : zMet G k_X8_begin [vr q, vi ai] A m (zpv A (fun m' => zsp4 m' q a zq0 ∧ zsP q (fun x => a ≤ x ∧ x < a + 4) m m')) := by
  subst hai
  obtain ⟨⟨hO0, f0, f1, f2, f3, f4, f5, f6, f7, f8, f9, f10, f11, f12, f16, f24, f25⟩, ⟨g1, g2, g3⟩, ⟨g4, g5, g6, g7, g8, g9⟩, ⟨g10, g11, g12, g13⟩, g14, g15, g16⟩ := id hA
  have hF : zsP q (fun x => a ≤ x ∧ x < a + 4) m m := zsP.rfl'
  refine zMet.of RX8 rfl (by decide +kernel) (Nat.le_of_ble_eq_true rfl) [some (vr q), some (vi (a : Int))] rfl (fun E hG X hQ hNm => ?_)
  subst hG
  refine z_aload_n X dX8_begin_0 rfl ?_
  refine z_iload_n X dX8_begin_1 rfl ?_
  refine z_lconst X dX8_begin_2 1 rfl ?_
  refine z_callVv X (As := [_, _]) dX8_begin_3 m_X8_set i_X8_set l_X8_133 (c_X8_set (zg E) (s := a) hA rfl (by omega) (Or.inr rfl)) (by first | assumption | exact zbigA.o (by assumption)) rfl rfl rfl (Nat.le_of_ble_eq_true rfl) ⟨Nat.le_of_ble_eq_true rfl, Nat.le_of_ble_eq_true rfl⟩ ⟨Nat.le_of_ble_eq_true rfl, Nat.le_of_ble_eq_true rfl⟩ ⟨rfl, rfl⟩ (fun m1 hm => ?_)
  obtain ⟨h0, hf⟩ := hm
  have hF := hF.k hf (fun x h => by omega)
  refine z_aload_n X dX8_begin_6 rfl ?_
  refine z_iload_n X dX8_begin_7 rfl ?_
  refine z_iconst X dX8_begin_8 ?_
  refine z_iadd X dX8_begin_9 ?_
  refine z_lconst X dX8_begin_10 1 rfl ?_
  refine z_callVv X (As := [_, _]) dX8_begin_11 m_X8_set i_X8_set l_X8_133 (c_X8_set (zg E) (s := a + 1) hA (by omega) (by omega) (Or.inr rfl)) (by first | assumption | exact zbigA.o (by assumption)) rfl rfl rfl (Nat.le_of_ble_eq_true rfl) ⟨Nat.le_of_ble_eq_true rfl, Nat.le_of_ble_eq_true rfl⟩ ⟨Nat.le_of_ble_eq_true rfl, Nat.le_of_ble_eq_true rfl⟩ ⟨rfl, rfl⟩ (fun m2 hm => ?_)
  obtain ⟨h1, hf⟩ := hm
  have h0 := h0.k hf (by omega)
  have hF := hF.k hf (fun x h => by omega)
  refine z_aload_n X dX8_begin_14 rfl ?_
  refine z_iload_n X dX8_begin_15 rfl ?_
  refine z_iconst X dX8_begin_16 ?_
  refine z_iadd X dX8_begin_17 ?_
  refine z_lconst X dX8_begin_18 1 rfl ?_
  refine z_callVv X (As := [_, _]) dX8_begin_19 m_X8_set i_X8_set l_X8_133 (c_X8_set (zg E) (s := a + 2) hA (by omega) (by omega) (Or.inr rfl)) (by first | assumption | exact zbigA.o (by assumption)) rfl rfl rfl (Nat.le_of_ble_eq_true rfl) ⟨Nat.le_of_ble_eq_true rfl, Nat.le_of_ble_eq_true rfl⟩ ⟨Nat.le_of_ble_eq_true rfl, Nat.le_of_ble_eq_true rfl⟩ ⟨rfl, rfl⟩ (fun m3 hm => ?_)
  obtain ⟨h2, hf⟩ := hm
  have h0 := h0.k hf (by omega)
  have h1 := h1.k hf (by omega)
  have hF := hF.k hf (fun x h => by omega)
  refine z_aload_n X dX8_begin_22 rfl ?_
  refine z_iload_n X dX8_begin_23 rfl ?_
  refine z_iconst X dX8_begin_24 ?_
  refine z_iadd X dX8_begin_25 ?_
  refine z_lconst X dX8_begin_26 0 rfl ?_
  refine z_callVv X (As := [_, _]) dX8_begin_27 m_X8_set i_X8_set l_X8_133 (c_X8_set (zg E) (s := a + 3) hA (by omega) (by omega) (Or.inl rfl)) (by first | assumption | exact zbigA.o (by assumption)) rfl rfl rfl (Nat.le_of_ble_eq_true rfl) ⟨Nat.le_of_ble_eq_true rfl, Nat.le_of_ble_eq_true rfl⟩ ⟨Nat.le_of_ble_eq_true rfl, Nat.le_of_ble_eq_true rfl⟩ ⟨rfl, rfl⟩ (fun m4 hm => ?_)
  obtain ⟨h3, hf⟩ := hm
  have h0 := h0.k hf (by omega)
  have h1 := h1.k hf (by omega)
  have h2 := h2.k hf (by omega)
  have hF := hF.k hf (fun x h => by omega)
  refine z_return (st := []) X rfl hQ dX8_begin_30 ⟨rfl, rfl, ?_⟩
  exact ⟨⟨h0, h1, h2, h3⟩, hF⟩
theorem c_X8_go (G : zG) {A : zA} {m : zM} {q a s k n : Nat} {ai si ki : Int} {c : Nat → Nat → Int} {u v : Int} {z : zq4} (hA : zmodA A q) (hai : ai = (a : Int)) (ha : a + 4 ≤ 55) (hsi : si = (s : Int)) (hs : s < 6) (hki : ki = (k : Int)) (hk : k < 100) (hm0 : zmsu m q s c u v) (hc : zcoef c) (hz : zok n z) (hn : n ≤ 99) (h4 : zsp4 m q a z) : zMet G k_X8_go [vr q, vi ai, vi si, vi ki] A m (zpv A (fun m' => zsp4 m' q a (zgoS c k z) ∧ zsP q (fun x => (a ≤ x ∧ x < a + 4) ∨ x = 55 ∨ x = 59) m m')) := by
  subst hai hsi hki
  obtain ⟨⟨hO0, f0, f1, f2, f3, f4, f5, f6, f7, f8, f9, f10, f11, f12, f16, f24, f25⟩, ⟨g1, g2, g3⟩, ⟨g4, g5, g6, g7, g8, g9⟩, ⟨g10, g11, g12, g13⟩, g14, g15, g16⟩ := id hA
  obtain ⟨hp, hq, hb, ht⟩ := h4
  obtain ⟨z1, z2, z3, z4⟩ := id hz
  have zt := hz.t (by omega)
  have p0 := zpval_bd hc (w := 0) (k := k) (by omega) hk
  have p1 := zpval_bd hc (w := 1) (k := k) (by omega) hk
  have p2 := zpval_bd hc (w := 2) (k := k) (by omega) hk
  have p3 := zpval_bd hc (w := 3) (k := k) (by omega) hk
  have q0 := zle_pval hc (w := 0) (k := k) (by omega) hk
  have q1 := zle_pval hc (w := 1) (k := k) (by omega) hk
  have q2 := zle_pval hc (w := 2) (k := k) (by omega) hk
  have q3 := zle_pval hc (w := 3) (k := k) (by omega) hk
  have f1 := z1.mul q0
  have f2 := f1.mul z3
  have f3 := f2.mul q2
  have f4 := zt.mul q1
  have f5 := f4.mul q3
  have f6 := z2.mul q1
  have f7 := z3.mul q3
  have hF : zsP q (fun x => (a ≤ x ∧ x < a + 4) ∨ x = 55 ∨ x = 59) m m := zsP.rfl'
  refine zMet.of RX8 rfl (by decide +kernel) (Nat.le_of_ble_eq_true rfl) [some (vr q), some (vi (a : Int)), some (vi (s : Int)), some (vi (k : Int)), none, none, none] rfl (fun E hG X hQ hNm => ?_)
  subst hG
  refine z_aload_n X dX8_go_0 rfl ?_
  refine z_iload_n X dX8_go_1 rfl ?_
  refine z_iconst X dX8_go_2 ?_
  refine z_iload_n X dX8_go_3 rfl ?_
  refine z_callVi X (As := [_, _, _]) dX8_go_4 m_X8_value i_X8_value l_X8_108 (c_X8_value (zg E) hA hs hm0 0 k rfl rfl rfl (by omega) hk) (by first | assumption | exact zbigA.o (by assumption)) rfl rfl rfl (Nat.le_of_ble_eq_true rfl) ⟨Nat.le_of_ble_eq_true rfl, Nat.le_of_ble_eq_true rfl⟩ ⟨Nat.le_of_ble_eq_true rfl, Nat.le_of_ble_eq_true rfl⟩ ⟨rfl, rfl⟩ (fun r1 m1 hm1 => ?_)
  obtain ⟨rfl, rfl⟩ := hm1
  refine z_istore X dX8_go_7 (fun y => [_, _, _, _, some (vi y), _, _]) (by decide) (fun _ => rfl) (fun x4_7 hx4_7 => ?_)
  subst hx4_7
  refine z_aload_n X dX8_go_9 rfl ?_
  refine z_iload_n X dX8_go_10 rfl ?_
  refine z_iconst X dX8_go_11 ?_
  refine z_iload_n X dX8_go_12 rfl ?_
  refine z_callVi X (As := [_, _, _]) dX8_go_13 m_X8_value i_X8_value l_X8_108 (c_X8_value (zg E) hA hs hm0 1 k rfl rfl rfl (by omega) hk) (by first | assumption | exact zbigA.o (by assumption)) rfl rfl rfl (Nat.le_of_ble_eq_true rfl) ⟨Nat.le_of_ble_eq_true rfl, Nat.le_of_ble_eq_true rfl⟩ ⟨Nat.le_of_ble_eq_true rfl, Nat.le_of_ble_eq_true rfl⟩ ⟨rfl, rfl⟩ (fun r1 m1 hm1 => ?_)
  obtain ⟨rfl, rfl⟩ := hm1
  refine z_istore X dX8_go_16 (fun y => [_, _, _, _, _, some (vi y), _]) (by decide) (fun _ => rfl) (fun x5_16 hx5_16 => ?_)
  subst hx5_16
  refine z_aload_n X dX8_go_18 rfl ?_
  refine z_iload_n X dX8_go_19 rfl ?_
  refine z_iconst X dX8_go_20 ?_
  refine z_iload_n X dX8_go_21 rfl ?_
  refine z_callVi X (As := [_, _, _]) dX8_go_22 m_X8_value i_X8_value l_X8_108 (c_X8_value (zg E) hA hs hm0 3 k rfl rfl rfl (by omega) hk) (by first | assumption | exact zbigA.o (by assumption)) rfl rfl rfl (Nat.le_of_ble_eq_true rfl) ⟨Nat.le_of_ble_eq_true rfl, Nat.le_of_ble_eq_true rfl⟩ ⟨Nat.le_of_ble_eq_true rfl, Nat.le_of_ble_eq_true rfl⟩ ⟨rfl, rfl⟩ (fun r1 m1 hm1 => ?_)
  obtain ⟨rfl, rfl⟩ := hm1
  refine z_istore X dX8_go_25 (fun y => [_, _, _, _, _, _, some (vi y)]) (by decide) (fun _ => rfl) (fun x6_25 hx6_25 => ?_)
  subst hx6_25
  refine z_aload_n X dX8_go_27 rfl ?_
  refine z_iload_n X dX8_go_28 rfl ?_
  refine z_iload X dX8_go_29 rfl ?_
  refine z_callVv X (As := [_, _]) dX8_go_31 m_X8_times i_X8_times l_X8_137 (c_X8_times (zg E) (s := a) hA rfl (by omega) (by omega) hp (f1.mono (by omega))) (by first | assumption | exact zbigA.o (by assumption)) rfl rfl rfl (Nat.le_of_ble_eq_true rfl) ⟨Nat.le_of_ble_eq_true rfl, Nat.le_of_ble_eq_true rfl⟩ ⟨Nat.le_of_ble_eq_true rfl, Nat.le_of_ble_eq_true rfl⟩ ⟨rfl, rfl⟩ (fun m1 hm => ?_)
  obtain ⟨hp, hf⟩ := hm
  have hq := hq.k hf (by omega)
  have hb := hb.k hf (by omega)
  have ht := ht.k hf (by omega)
  have hm0 := hm0.k hf (by omega)
  have hF := hF.k hf (fun x h => by omega)
  refine z_aload_n X dX8_go_34 rfl ?_
  refine z_iload_n X dX8_go_35 rfl ?_
  refine z_iload_n X dX8_go_36 rfl ?_
  refine z_iconst X dX8_go_37 ?_
  refine z_iadd X dX8_go_38 ?_
  refine z_bipush X dX8_go_39 (by decide) ?_
  refine z_callVv X (As := [_, _, _]) dX8_go_41 m_X8_multiply i_X8_multiply l_X8_140 (c_X8_multiply (zg E) (a := a) (b := a + 2) (t := 55) hA rfl (by omega) rfl (by omega) (by omega) (by omega) (by omega) (by omega) hp hb f1 z3 (by omega)) (by first | assumption | exact zbigA.o (by assumption)) rfl rfl rfl (Nat.le_of_ble_eq_true rfl) ⟨Nat.le_of_ble_eq_true rfl, Nat.le_of_ble_eq_true rfl⟩ ⟨Nat.le_of_ble_eq_true rfl, Nat.le_of_ble_eq_true rfl⟩ ⟨rfl, rfl⟩ (fun m2 hm => ?_)
  obtain ⟨ho, hf⟩ := hm
  have hp := hp.k hf (by omega)
  have hq := hq.k hf (by omega)
  have hb := hb.k hf (by omega)
  have ht := ht.k hf (by omega)
  have hm0 := hm0.k hf (by omega)
  have hF := hF.k hf (fun x h => by omega)
  refine z_aload_n X dX8_go_44 rfl ?_
  refine z_bipush X dX8_go_45 (by decide) ?_
  refine z_aload_n X dX8_go_47 rfl ?_
  refine z_iload_n X dX8_go_48 rfl ?_
  refine z_iconst X dX8_go_49 ?_
  refine z_iload_n X dX8_go_50 rfl ?_
  refine z_callVi X (As := [_, _, _]) dX8_go_51 m_X8_value i_X8_value l_X8_108 (c_X8_value (zg E) hA hs hm0 2 k rfl rfl rfl (by omega) hk) (by first | assumption | exact zbigA.o (by assumption)) rfl rfl rfl (Nat.le_of_ble_eq_true rfl) ⟨Nat.le_of_ble_eq_true rfl, Nat.le_of_ble_eq_true rfl⟩ ⟨Nat.le_of_ble_eq_true rfl, Nat.le_of_ble_eq_true rfl⟩ ⟨rfl, rfl⟩ (fun r1 m9 hm1 => ?_)
  obtain ⟨rfl, rfl⟩ := hm1
  refine z_callVv X (As := [_, _]) dX8_go_54 m_X8_times i_X8_times l_X8_137 (c_X8_times (zg E) (s := 55) hA rfl (by omega) (by omega) ho (f3.mono (by omega))) (by first | assumption | exact zbigA.o (by assumption)) rfl rfl rfl (Nat.le_of_ble_eq_true rfl) ⟨Nat.le_of_ble_eq_true rfl, Nat.le_of_ble_eq_true rfl⟩ ⟨Nat.le_of_ble_eq_true rfl, Nat.le_of_ble_eq_true rfl⟩ ⟨rfl, rfl⟩ (fun m3 hm => ?_)
  obtain ⟨ho, hf⟩ := hm
  have hp := hp.k hf (by omega)
  have hq := hq.k hf (by omega)
  have hb := hb.k hf (by omega)
  have ht := ht.k hf (by omega)
  have hm0 := hm0.k hf (by omega)
  have hF := hF.k hf (fun x h => by omega)
  refine z_aload_n X dX8_go_57 rfl ?_
  refine z_iload_n X dX8_go_58 rfl ?_
  refine z_iconst X dX8_go_59 ?_
  refine z_iadd X dX8_go_60 ?_
  refine z_iload X dX8_go_61 rfl ?_
  refine z_callVv X (As := [_, _]) dX8_go_63 m_X8_times i_X8_times l_X8_137 (c_X8_times (zg E) (s := a + 3) hA (by omega) (by omega) (by omega) ht (f4.mono (by omega))) (by first | assumption | exact zbigA.o (by assumption)) rfl rfl rfl (Nat.le_of_ble_eq_true rfl) ⟨Nat.le_of_ble_eq_true rfl, Nat.le_of_ble_eq_true rfl⟩ ⟨Nat.le_of_ble_eq_true rfl, Nat.le_of_ble_eq_true rfl⟩ ⟨rfl, rfl⟩ (fun m4 hm => ?_)
  obtain ⟨ht, hf⟩ := hm
  have hp := hp.k hf (by omega)
  have hq := hq.k hf (by omega)
  have hb := hb.k hf (by omega)
  have ho := ho.k hf (by omega)
  have hm0 := hm0.k hf (by omega)
  have hF := hF.k hf (fun x h => by omega)
  refine z_aload_n X dX8_go_66 rfl ?_
  refine z_iload_n X dX8_go_67 rfl ?_
  refine z_iconst X dX8_go_68 ?_
  refine z_iadd X dX8_go_69 ?_
  refine z_iload X dX8_go_70 rfl ?_
  refine z_callVv X (As := [_, _]) dX8_go_72 m_X8_times i_X8_times l_X8_137 (c_X8_times (zg E) (s := a + 3) hA (by omega) (by omega) (by omega) ht (f5.mono (by omega))) (by first | assumption | exact zbigA.o (by assumption)) rfl rfl rfl (Nat.le_of_ble_eq_true rfl) ⟨Nat.le_of_ble_eq_true rfl, Nat.le_of_ble_eq_true rfl⟩ ⟨Nat.le_of_ble_eq_true rfl, Nat.le_of_ble_eq_true rfl⟩ ⟨rfl, rfl⟩ (fun m5 hm => ?_)
  obtain ⟨ht, hf⟩ := hm
  have hp := hp.k hf (by omega)
  have hq := hq.k hf (by omega)
  have hb := hb.k hf (by omega)
  have ho := ho.k hf (by omega)
  have hm0 := hm0.k hf (by omega)
  have hF := hF.k hf (fun x h => by omega)
  refine z_aload_n X dX8_go_75 rfl ?_
  refine z_iload_n X dX8_go_76 rfl ?_
  refine z_iconst X dX8_go_77 ?_
  refine z_iadd X dX8_go_78 ?_
  refine z_bipush X dX8_go_79 (by decide) ?_
  refine z_iconst X dX8_go_81 ?_
  refine z_callVv X (As := [_, _, _]) dX8_go_82 m_X8_add i_X8_add l_X8_144 (c_X8_add (zg E) (s := a + 3) (b := 55) hA (by omega) rfl (by omega) (by omega) (by omega) (Or.inl rfl) ht ho (f5.mono (by omega)) (f3.mono (by omega)) (Or.inl ⟨rfl, rfl⟩)) (by first | assumption | exact zbigA.o (by assumption)) rfl rfl rfl (Nat.le_of_ble_eq_true rfl) ⟨Nat.le_of_ble_eq_true rfl, Nat.le_of_ble_eq_true rfl⟩ ⟨Nat.le_of_ble_eq_true rfl, Nat.le_of_ble_eq_true rfl⟩ ⟨rfl, rfl⟩ (fun m6 hm => ?_)
  obtain ⟨ht, hf⟩ := hm
  have hp := hp.k hf (by omega)
  have hq := hq.k hf (by omega)
  have hb := hb.k hf (by omega)
  have hm0 := hm0.k hf (by omega)
  have hF := hF.k hf (fun x h => by omega)
  refine z_aload_n X dX8_go_85 rfl ?_
  refine z_iload_n X dX8_go_86 rfl ?_
  refine z_iconst X dX8_go_87 ?_
  refine z_iadd X dX8_go_88 ?_
  refine z_iload X dX8_go_89 rfl ?_
  refine z_callVv X (As := [_, _]) dX8_go_91 m_X8_times i_X8_times l_X8_137 (c_X8_times (zg E) (s := a + 1) hA (by omega) (by omega) (by omega) hq (f6.mono (by omega))) (by first | assumption | exact zbigA.o (by assumption)) rfl rfl rfl (Nat.le_of_ble_eq_true rfl) ⟨Nat.le_of_ble_eq_true rfl, Nat.le_of_ble_eq_true rfl⟩ ⟨Nat.le_of_ble_eq_true rfl, Nat.le_of_ble_eq_true rfl⟩ ⟨rfl, rfl⟩ (fun m7 hm => ?_)
  obtain ⟨hq, hf⟩ := hm
  have hp := hp.k hf (by omega)
  have ht := ht.k hf (by omega)
  have hb := hb.k hf (by omega)
  have hm0 := hm0.k hf (by omega)
  have hF := hF.k hf (fun x h => by omega)
  refine z_aload_n X dX8_go_94 rfl ?_
  refine z_iload_n X dX8_go_95 rfl ?_
  refine z_iconst X dX8_go_96 ?_
  refine z_iadd X dX8_go_97 ?_
  refine z_iload X dX8_go_98 rfl ?_
  refine z_callVv X (As := [_, _]) dX8_go_100 m_X8_times i_X8_times l_X8_137 (c_X8_times (zg E) (s := a + 2) hA (by omega) (by omega) (by omega) hb (f7.mono (by omega))) (by first | assumption | exact zbigA.o (by assumption)) rfl rfl rfl (Nat.le_of_ble_eq_true rfl) ⟨Nat.le_of_ble_eq_true rfl, Nat.le_of_ble_eq_true rfl⟩ ⟨Nat.le_of_ble_eq_true rfl, Nat.le_of_ble_eq_true rfl⟩ ⟨rfl, rfl⟩ (fun m8 hm => ?_)
  obtain ⟨hb, hf⟩ := hm
  have hp := hp.k hf (by omega)
  have ht := ht.k hf (by omega)
  have hq := hq.k hf (by omega)
  have hm0 := hm0.k hf (by omega)
  have hF := hF.k hf (fun x h => by omega)
  refine z_return (st := []) X rfl hQ dX8_go_103 ⟨rfl, rfl, ?_⟩
  refine ⟨⟨hp, hq, hb, ?_⟩, hF⟩
  have e : (zgoS c k z).2.2.2 = z.2.2.2 * zpval c 1 k * zpval c 3 k + z.1 * zpval c 0 k * z.2.2.1 * zpval c 2 k := by unfold zgoS zadd; dsimp only; grind
  rw [e]
  exact ht
theorem zl8_grind {E : zCx} {rm : Room} {A : zA} (hroom : rm = k_X8_grind.2.2.2.2) (X : zOK E cX8_grind RX8 7 (some .int) rm) {q d s i e : Nat} {x5 : Int} {c : Nat → Nat → Int} {u v : Int} {m0 : zM} (hA : zmodA A q) (hd : d < 8) (hs : s < 6) (hc : zcoef c) (he : e ≤ 100)
    (K : ∀ m', zsp4 m' q (4 * d) (zgo c i zq0 (e - i)) → zsP q (fun x => (4 * d ≤ x ∧ x < 4 * d + 4) ∨ x = 55 ∨ x = 59) m0 m' → zW E (0, 0) A m' 93 [some (vr q), some (vi (d : Int)), some (vi (s : Int)), some (vi (i : Int)), some (vi (e : Int)), some (vi x5), some (vi (e : Int))] []) :
    ∀ (r t : Nat) (m : zM), i + t + r = e → zmsu m q s c u v → zsp4 m q (4 * d) (zgo c i zq0 t) → zsP q (fun x => (4 * d ≤ x ∧ x < 4 * d + 4) ∨ x = 55 ∨ x = 59) m0 m → zW E (0, 0) A m 70 [some (vr q), some (vi (d : Int)), some (vi (s : Int)), some (vi (i : Int)), some (vi (e : Int)), some (vi x5), some (vi ((i + t : Nat) : Int))] [] := by
  subst hroom
  obtain ⟨⟨hO0, f0, f1, f2, f3, f4, f5, f6, f7, f8, f9, f10, f11, f12, f16, f24, f25⟩, ⟨g1, g2, g3⟩, ⟨g4, g5, g6, g7, g8, g9⟩, ⟨g10, g11, g12, g13⟩, g14, g15, g16⟩ := id hA
  intro r
  induction r with
  | zero =>
    intro t m ht hm h4 hF
    obtain rfl : e = i + t := by omega
    rw [Nat.add_sub_cancel_left] at K
    refine z_iload X dX8_grind_70 rfl ?_
    refine z_iload X dX8_grind_72 rfl ?_
    refine z_icmp_ge X dX8_grind_74 93 (by decide) (by omega) (by omega) (fun h74 => ?_) (fun h74 => ?_)
    · exact K m h4 hF
    · exact absurd h74 (by omega)
  | succ r ih =>
    intro t m ht hm h4 hF
    have hz := zok_go hc zok_0 (k := i) (d := t) (by omega)
    refine z_iload X dX8_grind_70 rfl ?_
    refine z_iload X dX8_grind_72 rfl ?_
    refine z_icmp_ge X dX8_grind_74 93 (by decide) (by omega) (by omega) (fun h74 => ?_) (fun h74 => ?_)
    · exact absurd h74 (by omega)
    · refine z_aload_n X dX8_grind_77 rfl ?_
      refine z_iconst X dX8_grind_78 ?_
      refine z_iload_n X dX8_grind_79 rfl ?_
      refine z_imul X dX8_grind_80 ?_
      refine z_iload_n X dX8_grind_81 rfl ?_
      refine z_iload X dX8_grind_82 rfl ?_
      refine z_callVv X (As := [_, _, _]) dX8_grind_84 m_X8_go i_X8_go l_X8_156 (c_X8_go (zg E) (a := 4 * d) (k := i + t) hA (by omega) (by omega) rfl hs rfl (by omega) hm hc hz (by omega) h4) (by first | assumption | exact zbigA.o (by assumption)) rfl rfl rfl (Nat.le_of_ble_eq_true rfl) ⟨Nat.le_of_ble_eq_true rfl, Nat.le_of_ble_eq_true rfl⟩ ⟨Nat.le_of_ble_eq_true rfl, Nat.le_of_ble_eq_true rfl⟩ ⟨rfl, rfl⟩ (fun m1 hm1 => ?_)
      obtain ⟨h4, hf⟩ := hm1
      have hm := hm.k hf (by omega)
      have hF := hF.k hf (fun x h => by omega)
      refine z_iinc X dX8_grind_87 rfl (fun y => [_, _, _, _, _, _, some (vi y)]) (fun _ => rfl) (fun y hy => ?_)
      obtain rfl : y = ((i + (t + 1) : Nat) : Int) := by omega
      refine z_goto X dX8_grind_90 70 (by decide) ?_
      exact ih (t + 1) m1 (by omega) hm h4 hF
theorem c_X8_grind (G : zG) {A : zA} {m : zM} {q : Nat} {σ : zSt} {d s i j : Int} (hA : zmodA A q) (hm : zMR q m σ) (ho : zStok σ) (hd : zi32 d) (hs : zi32 s) (hi : zi32 i) (hj : zi32 j) : zMet G k_X8_grind [vr q, vi d, vi s, vi i, vi j] A m (zpi A (fun r m' => zMR q m' (sp_grind σ d s i j).2 ∧ zmm q m m' ∧ r = (sp_grind σ d s i j).1)) := by
  obtain ⟨⟨hO0, f0, f1, f2, f3, f4, f5, f6, f7, f8, f9, f10, f11, f12, f16, f24, f25⟩, ⟨g1, g2, g3⟩, ⟨g4, g5, g6, g7, g8, g9⟩, ⟨g10, g11, g12, g13⟩, g14, g15, g16⟩ := id hA
  unfold zi32 at hd hs hi hj
  refine zMet.of RX8 rfl (by decide +kernel) (Nat.le_of_ble_eq_true rfl) [some (vr q), some (vi d), some (vi s), some (vi i), some (vi j), none, none] rfl (fun E hG X hQ hNm => ?_)
  subst hG
  refine z_iload_n X dX8_grind_0 rfl ?_
  refine z_callSi X (As := [_]) dX8_grind_1 m_X8_isDrawer s_X8_isDrawer l_X8_150 (c_X8_isDrawer (zg E) hd) rfl rfl (Nat.le_of_ble_eq_true rfl) ⟨Nat.le_of_ble_eq_true rfl, Nat.le_of_ble_eq_true rfl⟩ ⟨Nat.le_of_ble_eq_true rfl, Nat.le_of_ble_eq_true rfl⟩ ⟨rfl, rfl⟩ (fun r1 m1 hm1 => ?_)
  obtain ⟨rfl, hr1⟩ := hm1
  refine z_if_eq X dX8_grind_4 14 (by decide) (by omega) (fun h4 => ?_) (fun h4 => ?_)
  · refine z_iconst X dX8_grind_14 ?_
    refine z_ireturn (st := []) X rfl hQ dX8_grind_15 ⟨rfl, _, rfl, ?_⟩
    unfold sp_grind
    rw [if_pos (by omega)]
    exact ⟨hm, zmm.r, rfl⟩
  · refine z_iload_n X dX8_grind_7 rfl ?_
    refine z_callSi X (As := [_]) dX8_grind_8 m_X8_isSum s_X8_isSum l_X8_90 (c_X8_isSum (zg E) hs) rfl rfl (Nat.le_of_ble_eq_true rfl) ⟨Nat.le_of_ble_eq_true rfl, Nat.le_of_ble_eq_true rfl⟩ ⟨Nat.le_of_ble_eq_true rfl, Nat.le_of_ble_eq_true rfl⟩ ⟨rfl, rfl⟩ (fun r2 m1 hm1 => ?_)
    obtain ⟨rfl, hr2⟩ := hm1
    refine z_if_ne X dX8_grind_11 16 (by decide) (by omega) (fun h11 => ?_) (fun h11 => ?_)
    · refine z_iload_n X dX8_grind_16 rfl ?_
      refine z_if_lt X dX8_grind_17 33 (by decide) (by omega) (fun h17 => ?_) (fun h17 => ?_)
      · refine z_bipush X dX8_grind_33 (by decide) ?_
        refine z_ireturn (st := []) X rfl hQ dX8_grind_35 ⟨rfl, _, rfl, ?_⟩
        unfold sp_grind
        rw [if_neg (by omega), if_pos (by omega)]
        exact ⟨hm, zmm.r, rfl⟩
      · refine z_iload X dX8_grind_20 rfl ?_
        refine z_iload_n X dX8_grind_22 rfl ?_
        refine z_icmp_lt X dX8_grind_23 33 (by decide) (by omega) (by omega) (fun h23 => ?_) (fun h23 => ?_)
        · refine z_bipush X dX8_grind_33 (by decide) ?_
          refine z_ireturn (st := []) X rfl hQ dX8_grind_35 ⟨rfl, _, rfl, ?_⟩
          unfold sp_grind
          rw [if_neg (by omega), if_pos (by omega)]
          exact ⟨hm, zmm.r, rfl⟩
        · refine z_iload X dX8_grind_26 rfl ?_
          refine z_bipush X dX8_grind_28 (by decide) ?_
          refine z_icmp_le X dX8_grind_30 36 (by decide) (by omega) (by omega) (fun h30 => ?_) (fun h30 => ?_)
          · obtain ⟨k, rfl⟩ : ∃ k : Nat, d = (k : Int) := ⟨d.toNat, by omega⟩
            obtain ⟨t, rfl⟩ : ∃ t : Nat, s = (t : Int) := ⟨s.toNat, by omega⟩
            obtain ⟨f, rfl⟩ : ∃ f : Nat, i = (f : Int) := ⟨i.toNat, by omega⟩
            obtain ⟨e, rfl⟩ : ∃ e : Nat, j = (e : Int) := ⟨j.toNat, by omega⟩
            refine z_aload_n X dX8_grind_36 rfl ?_
            refine z_iload_n X dX8_grind_37 rfl ?_
            refine z_iload_n X dX8_grind_38 rfl ?_
            refine z_iload X dX8_grind_39 rfl ?_
            refine z_iconst X dX8_grind_41 ?_
            refine z_callVi X (As := [_, _, _, _]) dX8_grind_42 m_X8_fall i_X8_fall l_X8_129 (c_X8_fall (zg E) (s := t) hA (by omega) (hm.1 t (by omega)) (ho.1 t (by omega)).1 (ho.1 t (by omega)).2 f f e rfl rfl rfl (by omega) (by omega) (Or.inl ⟨rfl, rfl⟩)) (by first | assumption | exact zbigA.o (by assumption)) rfl rfl rfl (Nat.le_of_ble_eq_true rfl) ⟨Nat.le_of_ble_eq_true rfl, Nat.le_of_ble_eq_true rfl⟩ ⟨Nat.le_of_ble_eq_true rfl, Nat.le_of_ble_eq_true rfl⟩ ⟨rfl, rfl⟩ (fun r3 m1 hm1 => ?_)
            obtain ⟨rfl, hr⟩ := hm1
            have hR := zff_bd (sC σ t) (sU σ t) (sV σ t) f f (e - f)
            rw [← hr] at hR
            have sp : sp_grind σ (k : Int) (t : Int) (f : Int) (e : Int) = if r3 ≠ -6 then (-100 - r3, σ) else ((e : Int) - (f : Int), wD σ (zup (sD σ) k (some (t, f, e, zgo (sC σ t) f zq0 (e - f))))) := by
              unfold sp_grind
              rw [if_neg (by omega), if_neg (by omega), Int.toNat_natCast, Int.toNat_natCast, Int.toNat_natCast, Int.toNat_natCast]
              unfold zfl
              rw [← hr]
            refine z_istore X dX8_grind_45 (fun y => [_, _, _, _, _, some (vi y), _]) (by decide) (fun _ => rfl) (fun p hp => ?_)
            obtain rfl : p = r3 := by omega
            refine z_iload X dX8_grind_47 rfl ?_
            refine z_bipush X dX8_grind_49 (by decide) ?_
            refine z_icmp_eq X dX8_grind_51 60 (by decide) (by omega) (by omega) (fun h51 => ?_) (fun h51 => ?_)
            · refine z_aload_n X dX8_grind_60 rfl ?_
              refine z_iconst X dX8_grind_61 ?_
              refine z_iload_n X dX8_grind_62 rfl ?_
              refine z_imul X dX8_grind_63 ?_
              refine z_callVv X (As := [_]) dX8_grind_64 m_X8_begin i_X8_begin l_X8_153 (c_X8_begin (zg E) (a := 4 * k) hA (by omega) (by omega)) (by first | assumption | exact zbigA.o (by assumption)) rfl rfl rfl (Nat.le_of_ble_eq_true rfl) ⟨Nat.le_of_ble_eq_true rfl, Nat.le_of_ble_eq_true rfl⟩ ⟨Nat.le_of_ble_eq_true rfl, Nat.le_of_ble_eq_true rfl⟩ ⟨rfl, rfl⟩ (fun m1 hm2 => ?_)
              obtain ⟨h4, hf⟩ := hm2
              have hsu := (hm.1 t (by omega)).k hf rfl
              have hF : zsP q (fun x => (4 * k ≤ x ∧ x < 4 * k + 4) ∨ x = 55 ∨ x = 59) m m1 := hf.mono (fun x h => Or.inl h)
              refine z_iload_n X dX8_grind_67 rfl ?_
              refine z_istore X dX8_grind_68 (fun y => [_, _, _, _, _, _, some (vi y)]) (by decide) (fun _ => rfl) (fun y hy => ?_)
              obtain rfl : y = ((f + 0 : Nat) : Int) := by omega
              refine zl8_grind rfl X hA (by omega) (by omega) (ho.1 t (by omega)).1 (by omega) (fun m2 g4 gF => ?_) (e - f) 0 m1 (by omega) hsu h4 hF
              refine z_aload_n X dX8_grind_93 rfl ?_
              refine z_getR X dX8_grind_94 f_X8_30 rfl (by first | assumption | exact zbigA.o (by assumption)) (by assumption) ?_
              refine z_iload_n X dX8_grind_97 rfl ?_
              refine z_iload_n X dX8_grind_98 rfl ?_
              refine z_iast X (k) dX8_grind_99 (by omega) (by assumption) (by omega) (by omega) ?_
              refine z_aload_n X dX8_grind_100 rfl ?_
              refine z_getR X dX8_grind_101 f_X8_33 rfl (by first | assumption | exact zbigA.o (by assumption)) (by assumption) ?_
              refine z_iload_n X dX8_grind_104 rfl ?_
              refine z_iload_n X dX8_grind_105 rfl ?_
              refine z_iast X (k) dX8_grind_106 (by omega) (by assumption) (by omega) (by omega) ?_
              refine z_aload_n X dX8_grind_107 rfl ?_
              refine z_getR X dX8_grind_108 f_X8_36 rfl (by first | assumption | exact zbigA.o (by assumption)) (by assumption) ?_
              refine z_iload_n X dX8_grind_111 rfl ?_
              refine z_iload X dX8_grind_112 rfl ?_
              refine z_iast X (k) dX8_grind_114 (by omega) (by assumption) (by omega) (by omega) ?_
              refine z_iload X dX8_grind_115 rfl ?_
              refine z_iload_n X dX8_grind_117 rfl ?_
              refine z_isub X dX8_grind_118 ?_
              refine z_ireturn (st := []) X rfl hQ dX8_grind_119 ⟨rfl, _, rfl, ?_⟩
              rw [sp, if_neg (by omega)]
              obtain ⟨b1, b2, b3, b4⟩ := g4
              refine ⟨hm.dr (x := some _) (by omega) ⟨by rw [zms_nq _ _ _ _ _ (by omega), zms_nq _ _ _ _ _ (by omega), zms_same], by rw [zms_nq _ _ _ _ _ (by omega), zms_same], zms_same _ _ _ _, ((b1.w (by omega)).w (by omega)).w (by omega), ((b2.w (by omega)).w (by omega)).w (by omega), ((b3.w (by omega)).w (by omega)).w (by omega), ((b4.w (by omega)).w (by omega)).w (by omega)⟩ (fun a j h1 h2 => ?_) (fun j hj => ?_) (fun y h1 h2 => ?_), ((gF.mm.w (by omega)).w (by omega)).w (by omega), rfl⟩
              · rw [zms_ne _ _ _ _ (by omega), zms_ne _ _ _ _ (by omega), zms_ne _ _ _ _ (by omega)]
                exact gF.1 a j (by omega)
              · rw [zms_nq _ _ _ _ _ (by omega), zms_nq _ _ _ _ _ (by omega), zms_nq _ _ _ _ _ (by omega)]
                exact gF.1 q j (by omega)
              · exact (((gF.2 y (by omega)).t (zSq_nq (by omega))).t (zSq_nq (by omega))).t (zSq_nq (by omega))
            · refine z_bipush X dX8_grind_54 (by decide) ?_
              refine z_iload X dX8_grind_56 rfl ?_
              refine z_isub X dX8_grind_58 ?_
              refine z_ireturn (st := []) X rfl hQ dX8_grind_59 ⟨rfl, _, rfl, ?_⟩
              rw [sp, if_pos (by omega)]
              exact ⟨hm, zmm.r, rfl⟩
          · refine z_bipush X dX8_grind_33 (by decide) ?_
            refine z_ireturn (st := []) X rfl hQ dX8_grind_35 ⟨rfl, _, rfl, ?_⟩
            unfold sp_grind
            rw [if_neg (by omega), if_pos (by omega)]
            exact ⟨hm, zmm.r, rfl⟩
    · refine z_iconst X dX8_grind_14 ?_
      refine z_ireturn (st := []) X rfl hQ dX8_grind_15 ⟨rfl, _, rfl, ?_⟩
      unfold sp_grind
      rw [if_pos (by omega)]
      exact ⟨hm, zmm.r, rfl⟩

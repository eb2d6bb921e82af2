/-! The model: combine -/
theorem zl8_combine {E : zCx} (X : zOK E cX8_combine RX8 9 none k_X8_combine.2.2.2.2) {A : zA} {q k N : Nat} {σ : zSt} {m0 : zM} (hA : zmodA A q) (hm : zMR q m0 σ) (ho : zStok σ) (hk : k < 4) (hN : 1 ≤ N ∧ N ≤ 100) (hb : zbld q σ k N m0) {P : zM → Prop} (hQ : zRet E (zpv A P) 0 0)
    (hP : ∀ m', zsl m' q 52 (zlh σ (sK σ k).2 N (sK σ k).1).1 → zsl m' q 53 (zlh σ (sK σ k).2 N (sK σ k).1).2.1 → zsl m' q 54 (zlh σ (sK σ k).2 N (sK σ k).1).2.2 → zle (zlh σ (sK σ k).2 N (sK σ k).1).1 19372 → zle (zlh σ (sK σ k).2 N (sK σ k).1).2.1 19372 → zle (zlh σ (sK σ k).2 N (sK σ k).1).2.2 19360 → zsP q (fun x => 52 ≤ x) m0 m' → P m') :
    ∀ (r i : Nat) (m : zM) (l4 l5 l6 l7 l8 : Option Value), i + r = (sK σ k).1 → zsl m q 52 (zlh σ (sK σ k).2 N i).1 → zsl m q 53 (zlh σ (sK σ k).2 N i).2.1 → zsl m q 54 (zlh σ (sK σ k).2 N i).2.2 → zle (zlh σ (sK σ k).2 N i).1 (4840 * i + 8 + i) → zle (zlh σ (sK σ k).2 N i).2.1 (4840 * i + 8 + i) → zle (zlh σ (sK σ k).2 N i).2.2 (4840 * i) → zsP q (fun x => 52 ≤ x) m0 m → zW E (0, 0) A m 23 [some (vr q), some (vi (k : Int)), some (vi (N : Int)), some (vi (i : Int)), l4, l5, l6, l7, l8] [] := by
  obtain ⟨⟨hO0, f0, f1, f2, f3, f4, f5, f6, f7, f8, f9, f10, f11, f12, f16, f24, f25⟩, ⟨g1, g2, g3⟩, ⟨g4, g5, g6, g7, g8, g9⟩, ⟨g10, g11, g12, g13⟩, g14, g15, g16⟩ := id hA
  have hk4 := (ho.2.2.1 k hk).1
  obtain ⟨q1, q2⟩ := hm.2.2.1 k hk
  intro r
  induction r with
  | zero =>
    intro i m l4 l5 l6 l7 l8 hi hL hH hD bL bH bD hF
    obtain rfl : i = (sK σ k).1 := by omega
    have e1 : m (q + 10) k = ((sK σ k).1 : Int) := (hF.1 _ _ (by omega)).trans q1
    refine z_iload_n X dX8_combine_23 rfl ?_
    refine z_aload_n X dX8_combine_24 rfl ?_
    refine z_getR X dX8_combine_25 f_X8_39 rfl (by first | assumption | exact zbigA.o (by assumption)) (by assumption) ?_
    refine z_iload_n X dX8_combine_28 rfl ?_
    refine z_iald X (k) dX8_combine_29 (by omega) (by assumption) (by omega) (by omega) ?_
    refine z_icmp_ge X dX8_combine_30 292 (by decide) (by omega) (by omega) (fun h30 => ?_) (fun h30 => ?_)
    · refine z_return (st := []) X rfl hQ dX8_combine_292 ⟨rfl, rfl, ?_⟩
      exact hP m hL hH hD (bL.mono (by omega)) (bH.mono (by omega)) (bD.mono (by omega)) hF
    · exact absurd h30 (by omega)
  | succ r ih =>
    intro i m l4 l5 l6 l7 l8 hi hL hH hD bL bH bD hF
    have e1 : m (q + 10) k = ((sK σ k).1 : Int) := (hF.1 _ _ (by omega)).trans q1
    have hpt := (ho.2.2.1 k hk).2 i (by omega)
    obtain ⟨v1, v2, v3⟩ := q2 i (by omega)
    have hbi := hb i (by omega)
    have ezl : zlh σ (sK σ k).2 N (i + 1) = ((zplh σ ((sK σ k).2 i) N).1 * (zlh σ (sK σ k).2 N i).2.2 + (zlh σ (sK σ k).2 N i).1 * (zplh σ ((sK σ k).2 i) N).2.2, (zplh σ ((sK σ k).2 i) N).2.1 * (zlh σ (sK σ k).2 N i).2.2 + (zlh σ (sK σ k).2 N i).2.1 * (zplh σ ((sK σ k).2 i) N).2.2, (zlh σ (sK σ k).2 N i).2.2 * (zplh σ ((sK σ k).2 i) N).2.2) := rfl
    generalize (sK σ k).2 i = x at hpt v1 v2 v3 hbi ezl
    obtain ⟨t, y, z⟩ := x
    obtain ⟨ht, hy, hz⟩ := id hpt
    have ht : t < 6 := ht
    have hy : -1000000 ≤ y ∧ y ≤ 1000000 := hy
    have hz : 1 ≤ z ∧ z ≤ 1000000 := hz
    have v1 : m0 (q + 11) (4 * k + i) = (t : Int) := v1
    have v2 : m0 (q + 12) (4 * k + i) = y := v2
    have v3 : m0 (q + 13) (4 * k + i) = z := v3
    obtain ⟨hco, u1, u2, u3⟩ := ho.1 t ht
    obtain ⟨⟨hp, hq, hbb, htt⟩, hb4⟩ := hbi
    have hb4 : zsl m0 q (32 + 5 * i + 4) (zgo (sC σ t) 0 zq0 (N - 1)).2.2.1 := hb4 hN.1
    have hp : zsl m0 q (32 + 5 * i) (zgo (sC σ t) 0 zq0 N).1 := hp
    have hq : zsl m0 q (32 + 5 * i + 1) (zgo (sC σ t) 0 zq0 N).2.1 := hq
    have hbb : zsl m0 q (32 + 5 * i + 2) (zgo (sC σ t) 0 zq0 N).2.2.1 := hbb
    have htt : zsl m0 q (32 + 5 * i + 3) (zgo (sC σ t) 0 zq0 N).2.2.2 := htt
    have hp := hp.k hF (by omega)
    have hq := hq.k hF (by omega)
    have hbb := hbb.k hF (by omega)
    have htt := htt.k hF (by omega)
    have hb4 := hb4.k hF (by omega)
    have hsu0 := hm.1 t ht
    have hok := zok_go hco zok_0 (k := 0) (d := N) (by omega)
    have hok1 := zok_go hco zok_0 (k := 0) (d := N - 1) (by omega)
    rw [Nat.zero_add] at hok hok1
    have pa2 := zle_pval hco (w := 2) (k := N - 1) (by omega) (by omega)
    have pb2 := zpval_bd hco (w := 2) (k := N - 1) (by omega) (by omega)
    have bu : zle (sU σ t) 20 := zle_mil (by omega)
    have bv : zle (sV σ t - sU σ t) 20 := zle_mil (by omega)
    have bt := hok.t (by omega)
    have hp' : zle (zgo (sC σ t) 0 zq0 N).1 (24 * N) := hok.1
    have hq' : zle (zgo (sC σ t) 0 zq0 N).2.1 (24 * N) := hok.2.1
    have hbb' : zle (zgo (sC σ t) 0 zq0 N).2.2.1 (24 * N) := hok.2.2.1
    have hb4' : zle (zgo (sC σ t) 0 zq0 (N - 1)).2.2.1 (24 * (N - 1)) := hok1.2.2.1
    have c0 := hq'.mul hbb'
    have c1 := c0.abs.mul (zle_mil (x := z) (by omega))
    have c2 := c1.mul bv
    have d0 := hp'.mul hb4'
    have d1 := d0.mul pa2
    have d2 := d1.mul (zle_mil hy)
    have d3 := d2.mul bu
    have t1 := bt.mul (zle_mil hy)
    have t2 := t1.mul bv
    have hG : zsP q (fun x => 52 ≤ x) m m := zsP.rfl'
    have gc : ∀ {m1 : zM} {a j : Nat}, zsP q (fun x => 52 ≤ x) m m1 → (a < q + 1 ∨ q + 3 < a) → m1 a j = m0 a j := fun h ha => (h.1 _ _ ha).trans (hF.1 _ _ ha)
    have eP : (zgo (sC σ t) 0 zq0 N).1 = (zgo (sC σ t) 0 zq0 (N - 1)).1 * zpval (sC σ t) 0 (N - 1) := by
      obtain ⟨M, rfl⟩ : ∃ M, N = M + 1 := ⟨N - 1, by omega⟩
      rw [Nat.add_sub_cancel]
      show (zgoS (sC σ t) (0 + M) _).1 = _
      rw [Nat.zero_add]
      rfl
    obtain ⟨X', hX'⟩ : ∃ X', X' = (zgo (sC σ t) 0 zq0 N).2.2.2 * y * (sV σ t - sU σ t) := ⟨_, rfl⟩
    obtain ⟨V, hV⟩ : ∃ V, V = (zgo (sC σ t) 0 zq0 N).2.1 * (zgo (sC σ t) 0 zq0 N).2.2.1 := ⟨_, rfl⟩
    obtain ⟨W, hW⟩ : ∃ W, W = V * z * (sV σ t - sU σ t) := ⟨_, rfl⟩
    obtain ⟨K, hK⟩ : ∃ K : Int, K = ((zadd (sC σ t) (N - 1) (zgo (sC σ t) 0 zq0 (N - 1)) * y * sU σ t).natAbs : Int) := ⟨_, rfl⟩
    obtain ⟨Y, hY⟩ : ∃ Y, Y = if W < 0 then -X' else X' := ⟨_, rfl⟩
    have hpl : zplh σ (t, y, z) N = (Y + -K, Y + K, (W.natAbs : Int)) := by rw [hY, hX', hW, hV, hK]; rfl
    have eK : K = (((zgo (sC σ t) 0 zq0 N).1 * (zgo (sC σ t) 0 zq0 (N - 1)).2.2.1 * zpval (sC σ t) 2 (N - 1) * y * sU σ t).natAbs : Int) := by
      rw [hK, eP]
      unfold zadd
      congr 2
      grind
    have eW : (W.natAbs : Int) = (V.natAbs : Int) * z * (sV σ t - sU σ t) := by
      rw [hW, zabs_mul, zabs_mul]
      congr 1
      · congr 1
        omega
      · omega
    have bX : zle X' 4847 := by rw [hX']; exact t2.mono (by omega)
    have bY : zle Y 4847 := by rw [hY]; split; exact bX.neg; exact bX
    have bK : zle K 4847 := by rw [eK]; exact d3.abs.mono (by omega)
    have bW : zle (W.natAbs : Int) 4840 := by rw [eW, hV]; exact c2.mono (by omega)
    have hWs : (0 ≤ V → 0 ≤ W) ∧ (V < 0 → W < 0) := by
      rw [hW]
      exact ⟨fun h => Int.mul_nonneg (Int.mul_nonneg h (by omega)) (by omega), fun h => Int.mul_neg_of_neg_of_pos (Int.mul_neg_of_neg_of_pos h (by omega)) (by omega)⟩
    refine z_iload_n X dX8_combine_23 rfl ?_
    refine z_aload_n X dX8_combine_24 rfl ?_
    refine z_getR X dX8_combine_25 f_X8_39 rfl (by first | assumption | exact zbigA.o (by assumption)) (by assumption) ?_
    refine z_iload_n X dX8_combine_28 rfl ?_
    refine z_iald X (k) dX8_combine_29 (by omega) (by assumption) (by omega) (by omega) ?_
    refine z_icmp_ge X dX8_combine_30 292 (by decide) (by omega) (by omega) (fun h30 => ?_) (fun h30 => ?_)
    · exact absurd h30 (by omega)
    · refine z_bipush X dX8_combine_33 (by decide) ?_
      refine z_iconst X dX8_combine_35 ?_
      refine z_iload_n X dX8_combine_36 rfl ?_
      refine z_imul X dX8_combine_37 ?_
      refine z_iadd X dX8_combine_38 ?_
      refine z_istore X dX8_combine_39 (fun y => [_, _, _, _, some (vi y), _, _, _, _]) (by decide) (fun _ => rfl) (fun a ha => ?_)
      obtain rfl : a = ((32 + 5 * i : Nat) : Int) := by omega
      refine z_aload_n X dX8_combine_41 rfl ?_
      refine z_getR X dX8_combine_42 f_X8_42 rfl (by first | assumption | exact zbigA.o (by assumption)) (by assumption) ?_
      refine z_iconst X dX8_combine_45 ?_
      refine z_iload_n X dX8_combine_46 rfl ?_
      refine z_imul X dX8_combine_47 ?_
      refine z_iload_n X dX8_combine_48 rfl ?_
      refine z_iadd X dX8_combine_49 ?_
      refine z_iald X (4 * k + i) dX8_combine_50 (by omega) (by assumption) (by omega) (by omega) ?_
      rw [show m (q + 11) (4 * k + i) = (t : Int) from (gc hG (by omega)).trans v1]
      refine z_istore X dX8_combine_51 (fun y => [_, _, _, _, _, some (vi y), _, _, _]) (by decide) (fun _ => rfl) (fun x5_51 hx5_51 => ?_)
      subst hx5_51
      refine z_aload_n X dX8_combine_53 rfl ?_
      refine z_getR X dX8_combine_54 f_X8_45 rfl (by first | assumption | exact zbigA.o (by assumption)) (by assumption) ?_
      refine z_iconst X dX8_combine_57 ?_
      refine z_iload_n X dX8_combine_58 rfl ?_
      refine z_imul X dX8_combine_59 ?_
      refine z_iload_n X dX8_combine_60 rfl ?_
      refine z_iadd X dX8_combine_61 ?_
      refine z_iald X (4 * k + i) dX8_combine_62 (by omega) (by assumption) (by omega) (by omega) ?_
      rw [show m (q + 12) (4 * k + i) = y from (gc hG (by omega)).trans v2]
      refine z_istore X dX8_combine_63 (fun y => [_, _, _, _, _, _, some (vi y), _, _]) (by decide) (fun _ => rfl) (fun y2 hy2 => ?_)
      obtain rfl : y = y2 := hy2.symm
      refine z_aload_n X dX8_combine_65 rfl ?_
      refine z_getR X dX8_combine_66 f_X8_27 rfl (by first | assumption | exact zbigA.o (by assumption)) (by assumption) ?_
      refine z_iload X dX8_combine_69 rfl ?_
      refine z_iald X (t) dX8_combine_71 (by omega) (by assumption) (by omega) (by omega) ?_
      refine z_aload_n X dX8_combine_72 rfl ?_
      refine z_getR X dX8_combine_73 f_X8_24 rfl (by first | assumption | exact zbigA.o (by assumption)) (by assumption) ?_
      refine z_iload X dX8_combine_76 rfl ?_
      refine z_iald X (t) dX8_combine_78 (by omega) (by assumption) (by omega) (by omega) ?_
      rw [show m (q + 6) t = sV σ t from (gc hG (by omega)).trans hsu0.2.2, show m (q + 5) t = sU σ t from (gc hG (by omega)).trans hsu0.2.1]
      refine z_isub X dX8_combine_79 ?_
      refine z_istore X dX8_combine_80 (fun y => [_, _, _, _, _, _, _, some (vi y), _]) (by decide) (fun _ => rfl) (fun x7_80 hx7_80 => ?_)
      subst hx7_80
      refine z_aload_n X dX8_combine_82 rfl ?_
      refine z_iload X dX8_combine_83 rfl ?_
      refine z_iconst X dX8_combine_85 ?_
      refine z_iadd X dX8_combine_86 ?_
      refine z_iload X dX8_combine_87 rfl ?_
      refine z_iconst X dX8_combine_89 ?_
      refine z_iadd X dX8_combine_90 ?_
      refine z_bipush X dX8_combine_91 (by decide) ?_
      refine z_callVv X (As := [_, _, _]) dX8_combine_93 m_X8_multiply i_X8_multiply l_X8_140 (c_X8_multiply (zg E) (a := 32 + 5 * i + 1) (b := 32 + 5 * i + 2) (t := 55) hA (by omega) (by omega) rfl (by omega) (by omega) (by omega) (by omega) (by omega) hq hbb hq' hbb' (by omega)) (by first | assumption | exact zbigA.o (by assumption)) rfl rfl rfl (Nat.le_of_ble_eq_true rfl) ⟨Nat.le_of_ble_eq_true rfl, Nat.le_of_ble_eq_true rfl⟩ ⟨Nat.le_of_ble_eq_true rfl, Nat.le_of_ble_eq_true rfl⟩ ⟨rfl, rfl⟩ (fun m1 hm => ?_)
      obtain ⟨h1, hf⟩ := hm
      have hp := hp.k hf (by omega)
      have htt := htt.k hf (by omega)
      have hb4 := hb4.k hf (by omega)
      have hL := hL.k hf (by omega)
      have hH := hH.k hf (by omega)
      have hD := hD.k hf (by omega)
      have hG := hG.k hf (fun x h => by omega)
      have h1 : zsl m1 q 55 V := by rw [hV]; exact h1
      obtain ⟨nn, s1, s2, s3, s4⟩ := h1.n0
      refine z_aload_n X dX8_combine_96 rfl ?_
      refine z_getR X dX8_combine_97 f_X8_17 rfl (by first | assumption | exact zbigA.o (by assumption)) (by assumption) ?_
      refine z_bipush X dX8_combine_100 (by decide) ?_
      refine z_bald X (55) dX8_combine_102 (by omega) (by assumption) (by omega) (by omega) ?_
      refine z_istore X dX8_combine_103 (fun y => [_, _, _, _, _, _, _, _, some (vi y)]) (by decide) (fun _ => rfl) (fun tu htu => ?_)
      refine z_aload_n X dX8_combine_105 rfl ?_
      refine z_getR X dX8_combine_106 f_X8_17 rfl (by first | assumption | exact zbigA.o (by assumption)) (by assumption) ?_
      refine z_bipush X dX8_combine_109 (by decide) ?_
      refine z_iconst X dX8_combine_111 ?_
      refine z_bast X (55) dX8_combine_112 (by omega) (by first | exact Or.inl rfl | exact Or.inr rfl | omega) (by assumption) (by omega) (by omega) ?_
      have h1 := h1.sg (u := (V.natAbs : Int)) (b := 0) (by omega) (by omega)
      have hp := hp.w3 (s := 55) (b := 0) (by omega)
      have htt := htt.w3 (s := 55) (b := 0) (by omega)
      have hb4 := hb4.w3 (s := 55) (b := 0) (by omega)
      have hL := hL.w3 (s := 55) (b := 0) (by omega)
      have hH := hH.w3 (s := 55) (b := 0) (by omega)
      have hD := hD.w3 (s := 55) (b := 0) (by omega)
      have hG := hG.w3 (s := 55) (v := 0) (by omega)
      refine z_aload_n X dX8_combine_113 rfl ?_
      refine z_bipush X dX8_combine_114 (by decide) ?_
      refine z_aload_n X dX8_combine_116 rfl ?_
      refine z_getR X dX8_combine_117 f_X8_48 rfl (by first | assumption | exact zbigA.o (by assumption)) (by assumption) ?_
      refine z_iconst X dX8_combine_120 ?_
      refine z_iload_n X dX8_combine_121 rfl ?_
      refine z_imul X dX8_combine_122 ?_
      refine z_iload_n X dX8_combine_123 rfl ?_
      refine z_iadd X dX8_combine_124 ?_
      refine z_iald X (4 * k + i) dX8_combine_125 (by omega) (by assumption) (by omega) (by omega) ?_
      rw [show zms m1 (q + 3) 55 0 (q + 13) (4 * k + i) = z from (gc hG (by omega)).trans v3]
      refine z_callVv X (As := [_, _]) dX8_combine_126 m_X8_times i_X8_times l_X8_137 (c_X8_times (zg E) (s := 55) hA rfl (by omega) (by omega) h1 (by rw [hV]; exact c1.mono (by omega))) (by first | assumption | exact zbigA.o (by assumption)) rfl rfl rfl (Nat.le_of_ble_eq_true rfl) ⟨Nat.le_of_ble_eq_true rfl, Nat.le_of_ble_eq_true rfl⟩ ⟨Nat.le_of_ble_eq_true rfl, Nat.le_of_ble_eq_true rfl⟩ ⟨rfl, rfl⟩ (fun m2 hm => ?_)
      obtain ⟨h1, hf⟩ := hm
      have hp := hp.k hf (by omega)
      have htt := htt.k hf (by omega)
      have hb4 := hb4.k hf (by omega)
      have hL := hL.k hf (by omega)
      have hH := hH.k hf (by omega)
      have hD := hD.k hf (by omega)
      have hG := hG.k hf (fun x h => by omega)
      refine z_aload_n X dX8_combine_129 rfl ?_
      refine z_bipush X dX8_combine_130 (by decide) ?_
      refine z_iload X dX8_combine_132 rfl ?_
      refine z_callVv X (As := [_, _]) dX8_combine_134 m_X8_times i_X8_times l_X8_137 (c_X8_times (zg E) (s := 55) hA rfl (by omega) (by omega) h1 (by rw [hV]; exact c2.mono (by omega))) (by first | assumption | exact zbigA.o (by assumption)) rfl rfl rfl (Nat.le_of_ble_eq_true rfl) ⟨Nat.le_of_ble_eq_true rfl, Nat.le_of_ble_eq_true rfl⟩ ⟨Nat.le_of_ble_eq_true rfl, Nat.le_of_ble_eq_true rfl⟩ ⟨rfl, rfl⟩ (fun m3 hm => ?_)
      obtain ⟨h1, hf⟩ := hm
      rw [← eW] at h1
      have hp := hp.k hf (by omega)
      have htt := htt.k hf (by omega)
      have hb4 := hb4.k hf (by omega)
      have hL := hL.k hf (by omega)
      have hH := hH.k hf (by omega)
      have hD := hD.k hf (by omega)
      have hG := hG.k hf (fun x h => by omega)
      refine z_aload_n X dX8_combine_137 rfl ?_
      refine z_iload X dX8_combine_138 rfl ?_
      refine z_iload X dX8_combine_140 rfl ?_
      refine z_iconst X dX8_combine_142 ?_
      refine z_iadd X dX8_combine_143 ?_
      refine z_bipush X dX8_combine_144 (by decide) ?_
      refine z_callVv X (As := [_, _, _]) dX8_combine_146 m_X8_multiply i_X8_multiply l_X8_140 (c_X8_multiply (zg E) (a := 32 + 5 * i) (b := 32 + 5 * i + 4) (t := 56) hA rfl (by omega) rfl (by omega) (by omega) (by omega) (by omega) (by omega) hp hb4 hp' hb4' (by omega)) (by first | assumption | exact zbigA.o (by assumption)) rfl rfl rfl (Nat.le_of_ble_eq_true rfl) ⟨Nat.le_of_ble_eq_true rfl, Nat.le_of_ble_eq_true rfl⟩ ⟨Nat.le_of_ble_eq_true rfl, Nat.le_of_ble_eq_true rfl⟩ ⟨rfl, rfl⟩ (fun m4 hm => ?_)
      obtain ⟨h2, hf⟩ := hm
      have h1 := h1.k hf (by omega)
      have htt := htt.k hf (by omega)
      have hL := hL.k hf (by omega)
      have hH := hH.k hf (by omega)
      have hD := hD.k hf (by omega)
      have hG := hG.k hf (fun x h => by omega)
      have hsu := hsu0.e (m' := m4) (fun a j _ _ => gc hG (by omega))
      refine z_aload_n X dX8_combine_149 rfl ?_
      refine z_bipush X dX8_combine_150 (by decide) ?_
      refine z_aload_n X dX8_combine_152 rfl ?_
      refine z_iload X dX8_combine_153 rfl ?_
      refine z_iconst X dX8_combine_155 ?_
      refine z_iload_n X dX8_combine_156 rfl ?_
      refine z_iconst X dX8_combine_157 ?_
      refine z_isub X dX8_combine_158 ?_
      refine z_callVi X (As := [_, _, _]) dX8_combine_159 m_X8_value i_X8_value l_X8_108 (c_X8_value (zg E) hA ht hsu 2 (N - 1) rfl rfl (by omega) (by omega) (by omega)) (by first | assumption | exact zbigA.o (by assumption)) rfl rfl rfl (Nat.le_of_ble_eq_true rfl) ⟨Nat.le_of_ble_eq_true rfl, Nat.le_of_ble_eq_true rfl⟩ ⟨Nat.le_of_ble_eq_true rfl, Nat.le_of_ble_eq_true rfl⟩ ⟨rfl, rfl⟩ (fun r1 m9 hm1 => ?_)
      obtain ⟨rfl, rfl⟩ := hm1
      refine z_callVv X (As := [_, _]) dX8_combine_162 m_X8_times i_X8_times l_X8_137 (c_X8_times (zg E) (s := 56) hA rfl (by omega) (by omega) h2 (d1.mono (by omega))) (by first | assumption | exact zbigA.o (by assumption)) rfl rfl rfl (Nat.le_of_ble_eq_true rfl) ⟨Nat.le_of_ble_eq_true rfl, Nat.le_of_ble_eq_true rfl⟩ ⟨Nat.le_of_ble_eq_true rfl, Nat.le_of_ble_eq_true rfl⟩ ⟨rfl, rfl⟩ (fun m5 hm => ?_)
      obtain ⟨h2, hf⟩ := hm
      have h1 := h1.k hf (by omega)
      have htt := htt.k hf (by omega)
      have hL := hL.k hf (by omega)
      have hH := hH.k hf (by omega)
      have hD := hD.k hf (by omega)
      have hG := hG.k hf (fun x h => by omega)
      refine z_aload_n X dX8_combine_165 rfl ?_
      refine z_bipush X dX8_combine_166 (by decide) ?_
      refine z_iload X dX8_combine_168 rfl ?_
      refine z_callVv X (As := [_, _]) dX8_combine_170 m_X8_times i_X8_times l_X8_137 (c_X8_times (zg E) (s := 56) hA rfl (by omega) (by omega) h2 (d2.mono (by omega))) (by first | assumption | exact zbigA.o (by assumption)) rfl rfl rfl (Nat.le_of_ble_eq_true rfl) ⟨Nat.le_of_ble_eq_true rfl, Nat.le_of_ble_eq_true rfl⟩ ⟨Nat.le_of_ble_eq_true rfl, Nat.le_of_ble_eq_true rfl⟩ ⟨rfl, rfl⟩ (fun m6 hm => ?_)
      obtain ⟨h2, hf⟩ := hm
      have h1 := h1.k hf (by omega)
      have htt := htt.k hf (by omega)
      have hL := hL.k hf (by omega)
      have hH := hH.k hf (by omega)
      have hD := hD.k hf (by omega)
      have hG := hG.k hf (fun x h => by omega)
      refine z_aload_n X dX8_combine_173 rfl ?_
      refine z_bipush X dX8_combine_174 (by decide) ?_
      refine z_aload_n X dX8_combine_176 rfl ?_
      refine z_getR X dX8_combine_177 f_X8_24 rfl (by first | assumption | exact zbigA.o (by assumption)) (by assumption) ?_
      refine z_iload X dX8_combine_180 rfl ?_
      refine z_iald X (t) dX8_combine_182 (by omega) (by assumption) (by omega) (by omega) ?_
      rw [show m6 (q + 5) t = sU σ t from (gc hG (by omega)).trans hsu0.2.1]
      refine z_callVv X (As := [_, _]) dX8_combine_183 m_X8_times i_X8_times l_X8_137 (c_X8_times (zg E) (s := 56) hA rfl (by omega) (by omega) h2 (d3.mono (by omega))) (by first | assumption | exact zbigA.o (by assumption)) rfl rfl rfl (Nat.le_of_ble_eq_true rfl) ⟨Nat.le_of_ble_eq_true rfl, Nat.le_of_ble_eq_true rfl⟩ ⟨Nat.le_of_ble_eq_true rfl, Nat.le_of_ble_eq_true rfl⟩ ⟨rfl, rfl⟩ (fun m7 hm => ?_)
      obtain ⟨h2, hf⟩ := hm
      have h1 := h1.k hf (by omega)
      have htt := htt.k hf (by omega)
      have hL := hL.k hf (by omega)
      have hH := hH.k hf (by omega)
      have hD := hD.k hf (by omega)
      have hG := hG.k hf (fun x h => by omega)
      refine z_aload_n X dX8_combine_186 rfl ?_
      refine z_getR X dX8_combine_187 f_X8_17 rfl (by first | assumption | exact zbigA.o (by assumption)) (by assumption) ?_
      refine z_bipush X dX8_combine_190 (by decide) ?_
      refine z_iconst X dX8_combine_192 ?_
      refine z_bast X (56) dX8_combine_193 (by omega) (by first | exact Or.inl rfl | exact Or.inr rfl | omega) (by assumption) (by omega) (by omega) ?_
      have h2 := h2.sg (u := K) (b := 0) (by rw [eK]; omega) (by omega)
      have h1 := h1.w3 (s := 56) (b := 0) (by omega)
      have htt := htt.w3 (s := 56) (b := 0) (by omega)
      have hL := hL.w3 (s := 56) (b := 0) (by omega)
      have hH := hH.w3 (s := 56) (b := 0) (by omega)
      have hD := hD.w3 (s := 56) (b := 0) (by omega)
      have hG := hG.w3 (s := 56) (v := 0) (by omega)
      refine z_aload_n X dX8_combine_194 rfl ?_
      refine z_iload X dX8_combine_195 rfl ?_
      refine z_iconst X dX8_combine_197 ?_
      refine z_iadd X dX8_combine_198 ?_
      refine z_bipush X dX8_combine_199 (by decide) ?_
      refine z_callVv X (As := [_, _]) dX8_combine_201 m_X8_copy i_X8_copy l_X8_81 (c_X8_copy (zg E) (a := 32 + 5 * i + 3) (b := 57) hA (by omega) rfl (by omega) (by omega) (by omega) htt) (by first | assumption | exact zbigA.o (by assumption)) rfl rfl rfl (Nat.le_of_ble_eq_true rfl) ⟨Nat.le_of_ble_eq_true rfl, Nat.le_of_ble_eq_true rfl⟩ ⟨Nat.le_of_ble_eq_true rfl, Nat.le_of_ble_eq_true rfl⟩ ⟨rfl, rfl⟩ (fun m8 hm => ?_)
      obtain ⟨h3, hf⟩ := hm
      have h1 := h1.k hf (by omega)
      have h2 := h2.k hf (by omega)
      have hL := hL.k hf (by omega)
      have hH := hH.k hf (by omega)
      have hD := hD.k hf (by omega)
      have hG := hG.k hf (fun x h => by omega)
      refine z_aload_n X dX8_combine_204 rfl ?_
      refine z_bipush X dX8_combine_205 (by decide) ?_
      refine z_iload X dX8_combine_207 rfl ?_
      refine z_callVv X (As := [_, _]) dX8_combine_209 m_X8_times i_X8_times l_X8_137 (c_X8_times (zg E) (s := 57) hA rfl (by omega) (by omega) h3 (t1.mono (by omega))) (by first | assumption | exact zbigA.o (by assumption)) rfl rfl rfl (Nat.le_of_ble_eq_true rfl) ⟨Nat.le_of_ble_eq_true rfl, Nat.le_of_ble_eq_true rfl⟩ ⟨Nat.le_of_ble_eq_true rfl, Nat.le_of_ble_eq_true rfl⟩ ⟨rfl, rfl⟩ (fun m10 hm => ?_)
      obtain ⟨h3, hf⟩ := hm
      have h1 := h1.k hf (by omega)
      have h2 := h2.k hf (by omega)
      have hL := hL.k hf (by omega)
      have hH := hH.k hf (by omega)
      have hD := hD.k hf (by omega)
      have hG := hG.k hf (fun x h => by omega)
      refine z_aload_n X dX8_combine_212 rfl ?_
      refine z_bipush X dX8_combine_213 (by decide) ?_
      refine z_iload X dX8_combine_215 rfl ?_
      refine z_callVv X (As := [_, _]) dX8_combine_217 m_X8_times i_X8_times l_X8_137 (c_X8_times (zg E) (s := 57) hA rfl (by omega) (by omega) h3 (t2.mono (by omega))) (by first | assumption | exact zbigA.o (by assumption)) rfl rfl rfl (Nat.le_of_ble_eq_true rfl) ⟨Nat.le_of_ble_eq_true rfl, Nat.le_of_ble_eq_true rfl⟩ ⟨Nat.le_of_ble_eq_true rfl, Nat.le_of_ble_eq_true rfl⟩ ⟨rfl, rfl⟩ (fun m11 hm => ?_)
      obtain ⟨h3, hf⟩ := hm
      have h1 := h1.k hf (by omega)
      have h2 := h2.k hf (by omega)
      have hL := hL.k hf (by omega)
      have hH := hH.k hf (by omega)
      have hD := hD.k hf (by omega)
      have hG := hG.k hf (fun x h => by omega)
      rw [← hX'] at h3
      obtain ⟨nx, x1, x2, x3, x4⟩ := h3.n0
      have tail : ∀ b : Int, ((b = 0 ∧ 0 ≤ Y) ∨ (b = 1 ∧ Y < 0)) → zW E (0, 0) A (zms m11 (q + 3) 57 b) 254 [some (vr q), some (vi (k : Int)), some (vi (N : Int)), some (vi (i : Int)), some (vi ((32 + 5 * i : Nat) : Int)), some (vi (t : Int)), some (vi y), some (vi (sV σ t - sU σ t)), some (vi tu)] [] := by
        intro b hb0
        have h3 := h3.sg (u := Y) (b := b) (by rw [hY]; split <;> omega) hb0
        have h1 := h1.w3 (s := 57) (b := b) (by omega)
        have h2 := h2.w3 (s := 57) (b := b) (by omega)
        have hL := hL.w3 (s := 57) (b := b) (by omega)
        have hH := hH.w3 (s := 57) (b := b) (by omega)
        have hD := hD.w3 (s := 57) (b := b) (by omega)
        have hG := hG.w3 (s := 57) (v := b) (by omega)
        refine z_aload_n X dX8_combine_254 rfl ?_
        refine z_bipush X dX8_combine_255 (by decide) ?_
        refine z_iconst X dX8_combine_257 ?_
        refine z_callVv X (As := [_, _]) dX8_combine_258 m_X8_widen i_X8_widen l_X8_173 (c_X8_widen (zg E) (b := 52) hA rfl (Or.inl rfl) (Or.inr rfl) hL h1 h2 h3 hD (bL.mono (by omega)) bW (bK.mono (by omega)) (bY.mono (by omega)) (bD.mono (by omega)) (Or.inr ⟨rfl, rfl⟩)) (by first | assumption | exact zbigA.o (by assumption)) rfl rfl rfl (Nat.le_of_ble_eq_true rfl) ⟨Nat.le_of_ble_eq_true rfl, Nat.le_of_ble_eq_true rfl⟩ ⟨Nat.le_of_ble_eq_true rfl, Nat.le_of_ble_eq_true rfl⟩ ⟨rfl, rfl⟩ (fun m12 hm => ?_)
        obtain ⟨hL, hf⟩ := hm
        have h1 := h1.k hf (by omega)
        have h2 := h2.k hf (by omega)
        have h3 := h3.k hf (by omega)
        have hH := hH.k hf (by omega)
        have hD := hD.k hf (by omega)
        have hG := hG.k hf (fun x h => by omega)
        refine z_aload_n X dX8_combine_261 rfl ?_
        refine z_bipush X dX8_combine_262 (by decide) ?_
        refine z_iconst X dX8_combine_264 ?_
        refine z_callVv X (As := [_, _]) dX8_combine_265 m_X8_widen i_X8_widen l_X8_173 (c_X8_widen (zg E) (b := 53) hA rfl (Or.inr rfl) (Or.inl rfl) hH h1 h2 h3 hD (bH.mono (by omega)) bW (bK.mono (by omega)) (bY.mono (by omega)) (bD.mono (by omega)) (Or.inl ⟨rfl, rfl⟩)) (by first | assumption | exact zbigA.o (by assumption)) rfl rfl rfl (Nat.le_of_ble_eq_true rfl) ⟨Nat.le_of_ble_eq_true rfl, Nat.le_of_ble_eq_true rfl⟩ ⟨Nat.le_of_ble_eq_true rfl, Nat.le_of_ble_eq_true rfl⟩ ⟨rfl, rfl⟩ (fun m13 hm => ?_)
        obtain ⟨hH, hf⟩ := hm
        have h1 := h1.k hf (by omega)
        have hL := hL.k hf (by omega)
        have hD := hD.k hf (by omega)
        have hG := hG.k hf (fun x h => by omega)
        refine z_aload_n X dX8_combine_268 rfl ?_
        refine z_bipush X dX8_combine_269 (by decide) ?_
        refine z_bipush X dX8_combine_271 (by decide) ?_
        refine z_bipush X dX8_combine_273 (by decide) ?_
        refine z_callVv X (As := [_, _, _]) dX8_combine_275 m_X8_multiply i_X8_multiply l_X8_140 (c_X8_multiply (zg E) (a := 54) (b := 55) (t := 58) hA rfl rfl rfl (by omega) (by omega) (by omega) (by omega) (by omega) hD h1 bD bW (by omega)) (by first | assumption | exact zbigA.o (by assumption)) rfl rfl rfl (Nat.le_of_ble_eq_true rfl) ⟨Nat.le_of_ble_eq_true rfl, Nat.le_of_ble_eq_true rfl⟩ ⟨Nat.le_of_ble_eq_true rfl, Nat.le_of_ble_eq_true rfl⟩ ⟨rfl, rfl⟩ (fun m14 hm => ?_)
        obtain ⟨h4', hf⟩ := hm
        have hL := hL.k hf (by omega)
        have hH := hH.k hf (by omega)
        have hG := hG.k hf (fun x h => by omega)
        refine z_aload_n X dX8_combine_278 rfl ?_
        refine z_bipush X dX8_combine_279 (by decide) ?_
        refine z_bipush X dX8_combine_281 (by decide) ?_
        refine z_callVv X (As := [_, _]) dX8_combine_283 m_X8_copy i_X8_copy l_X8_81 (c_X8_copy (zg E) (a := 58) (b := 54) hA rfl rfl (by omega) (by omega) (by omega) h4') (by first | assumption | exact zbigA.o (by assumption)) rfl rfl rfl (Nat.le_of_ble_eq_true rfl) ⟨Nat.le_of_ble_eq_true rfl, Nat.le_of_ble_eq_true rfl⟩ ⟨Nat.le_of_ble_eq_true rfl, Nat.le_of_ble_eq_true rfl⟩ ⟨rfl, rfl⟩ (fun m15 hm => ?_)
        obtain ⟨hD, hf⟩ := hm
        have hL := hL.k hf (by omega)
        have hH := hH.k hf (by omega)
        have hG := hG.k hf (fun x h => by omega)
        refine z_iinc X dX8_combine_286 rfl (fun y => [_, _, _, some (vi y), _, _, _, _, _]) (fun _ => rfl) (fun zz hzz => ?_)
        obtain rfl : zz = ((i + 1 : Nat) : Int) := by omega
        refine z_goto X dX8_combine_289 23 (by decide) ?_
        rw [hpl] at ezl
        dsimp only at ezl
        have f1 : (zlh σ (sK σ k).2 N i).1 * (W.natAbs : Int) + Y * (zlh σ (sK σ k).2 N i).2.2 - K * (zlh σ (sK σ k).2 N i).2.2 = (zlh σ (sK σ k).2 N (i + 1)).1 := by rw [ezl]; dsimp only; grind
        have f2 : (zlh σ (sK σ k).2 N i).2.1 * (W.natAbs : Int) + Y * (zlh σ (sK σ k).2 N i).2.2 + K * (zlh σ (sK σ k).2 N i).2.2 = (zlh σ (sK σ k).2 N (i + 1)).2.1 := by rw [ezl]; dsimp only; grind
        have f3 : (zlh σ (sK σ k).2 N i).2.2 * (W.natAbs : Int) = (zlh σ (sK σ k).2 N (i + 1)).2.2 := by rw [ezl]
        rw [f1] at hL
        rw [f2] at hH
        rw [f3] at hD
        refine ih (i + 1) m15 _ _ _ _ _ (by omega) hL hH hD ?_ ?_ ?_ (hF.t hG)
        · rw [ezl]
          have g1 := ((bY.mono (b := 4847) (by omega)).add bK.neg).mul bD
          have g2 := bL.mul bW
          exact ((g1.mono (b := 4840 * (i + 1) + 8 + i) (by omega)).add (g2.mono (by omega))).mono (by omega)
        · rw [ezl]
          have g1 := ((bY.mono (b := 4847) (by omega)).add bK).mul bD
          have g2 := bH.mul bW
          exact ((g1.mono (b := 4840 * (i + 1) + 8 + i) (by omega)).add (g2.mono (by omega))).mono (by omega)
        · rw [ezl]
          exact (bD.mul bW).mono (by omega)
      refine z_aload_n X dX8_combine_220 rfl ?_
      refine z_getR X dX8_combine_221 f_X8_17 rfl (by first | assumption | exact zbigA.o (by assumption)) (by assumption) ?_
      refine z_bipush X dX8_combine_224 (by decide) ?_
      refine z_aload_n X dX8_combine_226 rfl ?_
      refine z_getR X dX8_combine_227 f_X8_14 rfl (by first | assumption | exact zbigA.o (by assumption)) (by assumption) ?_
      refine z_bipush X dX8_combine_230 (by decide) ?_
      refine z_iald X (57) dX8_combine_232 (by omega) (by assumption) (by omega) (by omega) ?_
      refine z_if_le X dX8_combine_233 252 (by decide) (by omega) (fun h233 => ?_) (fun h233 => ?_)
      · refine z_iconst X dX8_combine_252 ?_
        refine z_bast X (57) dX8_combine_253 (by omega) (by first | exact Or.inl rfl | exact Or.inr rfl | omega) (by assumption) (by omega) (by omega) ?_
        exact tail _ (by rw [hY]; split <;> omega)
      · refine z_aload_n X dX8_combine_236 rfl ?_
        refine z_getR X dX8_combine_237 f_X8_17 rfl (by first | assumption | exact zbigA.o (by assumption)) (by assumption) ?_
        refine z_bipush X dX8_combine_240 (by decide) ?_
        refine z_bald X (57) dX8_combine_242 (by omega) (by assumption) (by omega) (by omega) ?_
        refine z_iload X dX8_combine_243 rfl ?_
        refine z_icmp_eq X dX8_combine_245 252 (by decide) (by omega) (by omega) (fun h245 => ?_) (fun h245 => ?_)
        · refine z_iconst X dX8_combine_252 ?_
          refine z_bast X (57) dX8_combine_253 (by omega) (by first | exact Or.inl rfl | exact Or.inr rfl | omega) (by assumption) (by omega) (by omega) ?_
          exact tail _ (by rw [hY]; split <;> omega)
        · refine z_iconst X dX8_combine_248 ?_
          refine z_goto X dX8_combine_249 253 (by decide) ?_
          refine z_bast X (57) dX8_combine_253 (by omega) (by first | exact Or.inl rfl | exact Or.inr rfl | omega) (by assumption) (by omega) (by omega) ?_
          exact tail _ (by rw [hY]; split <;> omega)
theorem c_X8_combine (G : zG) {A : zA} {m : zM} {q k N : Nat} {σ : zSt} {ki Ni : Int} (hA : zmodA A q) (hm : zMR q m σ) (ho : zStok σ) (hki : ki = (k : Int)) (hNi : Ni = (N : Int)) (hk : k < 4) (hN : 1 ≤ N ∧ N ≤ 100) (hb : zbld q σ k N m) : zMet G k_X8_combine [vr q, vi ki, vi Ni] A m (zpv A (fun m' => zsl m' q 52 (zlh σ (sK σ k).2 N (sK σ k).1).1 ∧ zsl m' q 53 (zlh σ (sK σ k).2 N (sK σ k).1).2.1 ∧ zsl m' q 54 (zlh σ (sK σ k).2 N (sK σ k).1).2.2 ∧ zle (zlh σ (sK σ k).2 N (sK σ k).1).1 19372 ∧ zle (zlh σ (sK σ k).2 N (sK σ k).1).2.1 19372 ∧ zle (zlh σ (sK σ k).2 N (sK σ k).1).2.2 19360 ∧ zsP q (fun x => 52 ≤ x) m m')) := by
  subst hki hNi
  obtain ⟨⟨hO0, f0, f1, f2, f3, f4, f5, f6, f7, f8, f9, f10, f11, f12, f16, f24, f25⟩, ⟨g1, g2, g3⟩, ⟨g4, g5, g6, g7, g8, g9⟩, ⟨g10, g11, g12, g13⟩, g14, g15, g16⟩ := id hA
  have hk4 := (ho.2.2.1 k hk).1
  have hF : zsP q (fun x => 52 ≤ x) m m := zsP.rfl'
  refine zMet.of RX8 rfl (by decide +kernel) (Nat.le_of_ble_eq_true rfl) [some (vr q), some (vi (k : Int)), some (vi (N : Int)), none, none, none, none, none, none] rfl (fun E hG X hQ hNm => ?_)
  subst hG
  refine z_aload_n X dX8_combine_0 rfl ?_
  refine z_bipush X dX8_combine_1 (by decide) ?_
  refine z_lconst X dX8_combine_3 0 rfl ?_
  refine z_callVv X (As := [_, _]) dX8_combine_4 m_X8_set i_X8_set l_X8_133 (c_X8_set (zg E) (s := 52) hA rfl (by omega) (Or.inl rfl)) (by first | assumption | exact zbigA.o (by assumption)) rfl rfl rfl (Nat.le_of_ble_eq_true rfl) ⟨Nat.le_of_ble_eq_true rfl, Nat.le_of_ble_eq_true rfl⟩ ⟨Nat.le_of_ble_eq_true rfl, Nat.le_of_ble_eq_true rfl⟩ ⟨rfl, rfl⟩ (fun m1 hm1 => ?_)
  obtain ⟨hL, hf⟩ := hm1
  have hF := hF.k hf (fun x h => by omega)
  refine z_aload_n X dX8_combine_7 rfl ?_
  refine z_bipush X dX8_combine_8 (by decide) ?_
  refine z_lconst X dX8_combine_10 0 rfl ?_
  refine z_callVv X (As := [_, _]) dX8_combine_11 m_X8_set i_X8_set l_X8_133 (c_X8_set (zg E) (s := 53) hA rfl (by omega) (Or.inl rfl)) (by first | assumption | exact zbigA.o (by assumption)) rfl rfl rfl (Nat.le_of_ble_eq_true rfl) ⟨Nat.le_of_ble_eq_true rfl, Nat.le_of_ble_eq_true rfl⟩ ⟨Nat.le_of_ble_eq_true rfl, Nat.le_of_ble_eq_true rfl⟩ ⟨rfl, rfl⟩ (fun m2 hm1 => ?_)
  obtain ⟨hH, hf⟩ := hm1
  have hL := hL.k hf (by omega)
  have hF := hF.k hf (fun x h => by omega)
  refine z_aload_n X dX8_combine_14 rfl ?_
  refine z_bipush X dX8_combine_15 (by decide) ?_
  refine z_lconst X dX8_combine_17 1 rfl ?_
  refine z_callVv X (As := [_, _]) dX8_combine_18 m_X8_set i_X8_set l_X8_133 (c_X8_set (zg E) (s := 54) hA rfl (by omega) (Or.inr rfl)) (by first | assumption | exact zbigA.o (by assumption)) rfl rfl rfl (Nat.le_of_ble_eq_true rfl) ⟨Nat.le_of_ble_eq_true rfl, Nat.le_of_ble_eq_true rfl⟩ ⟨Nat.le_of_ble_eq_true rfl, Nat.le_of_ble_eq_true rfl⟩ ⟨rfl, rfl⟩ (fun m3 hm1 => ?_)
  obtain ⟨hD, hf⟩ := hm1
  have hL := hL.k hf (by omega)
  have hH := hH.k hf (by omega)
  have hF := hF.k hf (fun x h => by omega)
  refine z_iconst X dX8_combine_21 ?_
  refine z_istore_n X dX8_combine_22 (fun y => [_, _, _, some (vi y), _, _, _, _, _]) (by decide) (fun _ => rfl) (fun x3_22 hx3_22 => ?_)
  subst hx3_22
  refine zl8_combine X hA (hm.k (hF.mono (fun x h => by omega))) ho hk hN (hb.k hF hk4) hQ (fun m' g1 g2 g3 g4 g5 g6 g7 => ⟨g1, g2, g3, g4, g5, g6, hF.t g7⟩) (sK σ k).1 0 m3 none none none none none (by omega) hL hH hD (by unfold zle zlh; decide) (by unfold zle zlh; decide) (by unfold zle zlh; decide) zsP.rfl'

/-! The model: gain, lose, add -/
theorem zl8_gain {E : zCx} {rm : Room} {cs : Nat × Nat} {A : zA} (X : zOK E cX8_gain RX8 7 none rm) {q s b n k e : Nat} (hA : zmodA A q) (hs : s < 60) (hb : b < 60) (hne : b ≠ s) {m0 : zM} (hn : m0 (q + 2) s = (n : Int)) (hk : m0 (q + 2) b = (k : Int)) (hn2 : n ≤ 1200) (hk2 : k ≤ 1200) (he : e = max n k) : ∀ (r i : Nat) (m : zM) (c : Int), i + r = e → zsP q (fun x => x = s) m0 m → m (q + 2) s = (n : Int) → m (q + 3) s = m0 (q + 3) s → (∀ j, i ≤ j → j < 1200 → m (q + 1) (1200 * s + j) = m0 (q + 1) (1200 * s + j)) → 0 ≤ c → c ≤ 1 → zsum 4294967296 (zwd m q s) i + c * 4294967296 ^ i = zsum 4294967296 (zdg (zwd m0 q s) n) i + zsum 4294967296 (zdg (zwd m0 q b) k) i →
    (∀ (m' : zM) (c : Int), zsP q (fun x => x = s) m0 m' → m' (q + 2) s = (n : Int) → m' (q + 3) s = m0 (q + 3) s → 0 ≤ c → c ≤ 1 → zsum 4294967296 (zwd m' q s) e + c * 4294967296 ^ e = zsum 4294967296 (zdg (zwd m0 q s) n) e + zsum 4294967296 (zdg (zwd m0 q b) k) e → zW E cs A m' 142 [some (vr q), some (vi (s : Int)), some (vi (b : Int)), some (vl c), none, some (vi (e : Int)), some (vi (e : Int))] []) → zW E cs A m 37 [some (vr q), some (vi (s : Int)), some (vi (b : Int)), some (vl c), none, some (vi (e : Int)), some (vi (i : Int))] [] := by
  obtain ⟨⟨hO0, f0, f1, f2, f3, f4, f5, f6, f7, f8, f9, f10, f11, f12, f16, f24, f25⟩, ⟨g1, g2, g3⟩, ⟨g4, g5, g6, g7, g8, g9⟩, ⟨g10, g11, g12, g13⟩, g14, g15, g16⟩ := id hA
  intro r
  induction r with
  | zero =>
    intro i m c hi h1 e1 e2 h3 hc0 hc1 hsum K
    obtain rfl : i = e := by omega
    refine z_iload X dX8_gain_37 rfl ?_
    refine z_iload X dX8_gain_39 rfl ?_
    refine z_icmp_ge X dX8_gain_41 142 (by decide) (by omega) (by omega) (fun h41 => ?_) (fun h41 => ?_)
    · exact K m c h1 e1 e2 hc0 hc1 hsum
    · exact absurd h41 (by omega)
  | succ r ih =>
    intro i m c hi h1 e1 e2 h3 hc0 hc1 hsum K
    have eb : m (q + 2) b = (k : Int) := (h1.2 b hne).1.trans hk
    have w1 := zwd_bd m0 q s i
    have w2 := zwd_bd m0 q b i
    have e3 : m (q + 1) (1200 * s + i) % 4294967296 = zwd m0 q s i := by rw [h3 i (by omega) (by omega)]; rfl
    have e4 : m (q + 1) (1200 * b + i) % 4294967296 = zwd m0 q b i := by rw [(h1.2 b hne).2.2 i (by omega)]; rfl
    refine z_iload X dX8_gain_37 rfl ?_
    refine z_iload X dX8_gain_39 rfl ?_
    refine z_icmp_ge X dX8_gain_41 142 (by decide) (by omega) (by omega) (fun h41 => ?_) (fun h41 => ?_)
    · exact absurd h41 (by omega)
    · refine z_lload_n X dX8_gain_44 rfl ?_
      refine z_iload X dX8_gain_45 rfl ?_
      refine z_aload_n X dX8_gain_47 rfl ?_
      refine z_getR X dX8_gain_48 f_X8_14 rfl (by first | assumption | exact zbigA.o (by assumption)) (by assumption) ?_
      refine z_iload_n X dX8_gain_51 rfl ?_
      refine z_iald X (s) dX8_gain_52 (by omega) (by assumption) (by omega) (by omega) ?_
      refine z_icmp_ge X dX8_gain_53 77 (by decide) (by omega) (by omega) (fun h53 => ?_) (fun h53 => ?_)
      · refine z_lconst X dX8_gain_77 0 rfl ?_
        refine z_ladd X dX8_gain_78 ?_
        refine z_lstore_n X dX8_gain_79 (fun y => [_, _, _, some (vl y), _, _, _]) (by decide) (fun _ => rfl) (fun y1 hy1 => ?_)
        refine z_lload_n X dX8_gain_80 rfl ?_
        refine z_iload X dX8_gain_81 rfl ?_
        refine z_aload_n X dX8_gain_83 rfl ?_
        refine z_getR X dX8_gain_84 f_X8_14 rfl (by first | assumption | exact zbigA.o (by assumption)) (by assumption) ?_
        refine z_iload_n X dX8_gain_87 rfl ?_
        refine z_iald X (b) dX8_gain_88 (by omega) (by assumption) (by omega) (by omega) ?_
        refine z_icmp_ge X dX8_gain_89 113 (by decide) (by omega) (by omega) (fun h89 => ?_) (fun h89 => ?_)
        · refine z_lconst X dX8_gain_113 0 rfl ?_
          refine z_ladd X dX8_gain_114 ?_
          refine z_lstore_n X dX8_gain_115 (fun y => [_, _, _, some (vl y), _, _, _]) (by decide) (fun _ => rfl) (fun y2 hy2 => ?_)
          refine z_aload_n X dX8_gain_116 rfl ?_
          refine z_getR X dX8_gain_117 f_X8_8 rfl (by first | assumption | exact zbigA.o (by assumption)) (by assumption) ?_
          refine z_sipush X dX8_gain_120 (by decide) ?_
          refine z_iload_n X dX8_gain_123 rfl ?_
          refine z_imul X dX8_gain_124 ?_
          refine z_iload X dX8_gain_125 rfl ?_
          refine z_iadd X dX8_gain_127 ?_
          refine z_lload_n X dX8_gain_128 rfl ?_
          refine z_l2i X dX8_gain_129 ?_
          refine z_iast X (1200 * s + i) dX8_gain_130 (by omega) (by assumption) (by omega) (by omega) ?_
          refine z_lload_n X dX8_gain_131 rfl ?_
          refine z_bipush X dX8_gain_132 (by decide) ?_
          refine z_lushr X dX8_gain_134 32 4294967296 rfl (by decide) (by decide) (by omega) ?_
          refine z_lstore_n X dX8_gain_135 (fun y => [_, _, _, some (vl y), _, _, _]) (by decide) (fun _ => rfl) (fun c2 hc2 => ?_)
          refine z_iinc X dX8_gain_136 rfl (fun y => [_, _, _, _, _, _, some (vi y)]) (fun _ => rfl) (fun z hz => ?_)
          obtain rfl : z = ((i + 1 : Nat) : Int) := by omega
          have hl : y2 = c + zdg (zwd m0 q s) n i + zdg (zwd m0 q b) k i := by unfold zdg; (repeat' split) <;> omega
          refine z_goto X dX8_gain_139 37 (by decide) ?_
          have e7 : zsum 4294967296 (zwd (zms m (q + 1) (1200 * s + i) y2) q s) i = zsum 4294967296 (zwd m q s) i := zsum_congr (fun j hj => by unfold zwd; rw [zms_nk _ _ _ _ _ (by omega)])
          refine ih (i + 1) _ c2 (by omega) (h1.w1 (i := i) rfl (by omega)) (by rw [zms_nq _ _ _ _ _ (by omega)]; exact e1) (by rw [zms_nq _ _ _ _ _ (by omega)]; exact e2) (fun j hj hj2 => by rw [zms_nk _ _ _ _ _ (by omega)]; exact h3 j (by omega) hj2) (by omega) (by omega) ?_ K
          rw [zsum_s, zsum_s, zsum_s, e7, Int.pow_succ, show zwd (zms m (q + 1) (1200 * s + i) y2) q s i = y2 % 4294967296 by unfold zwd; rw [zms_same]]
          exact zstep_add hsum hl (by omega)
        · refine z_aload_n X dX8_gain_92 rfl ?_
          refine z_getR X dX8_gain_93 f_X8_8 rfl (by first | assumption | exact zbigA.o (by assumption)) (by assumption) ?_
          refine z_sipush X dX8_gain_96 (by decide) ?_
          refine z_iload_n X dX8_gain_99 rfl ?_
          refine z_imul X dX8_gain_100 ?_
          refine z_iload X dX8_gain_101 rfl ?_
          refine z_iadd X dX8_gain_103 ?_
          refine z_iald X (1200 * b + i) dX8_gain_104 (by omega) (by assumption) (by omega) (by omega) ?_
          refine z_i2lm X dX8_gain_105 dX8_gain_106 q_X8_64 dX8_gain_109 ?_
          refine z_goto X dX8_gain_110 114 (by decide) ?_
          refine z_ladd X dX8_gain_114 ?_
          refine z_lstore_n X dX8_gain_115 (fun y => [_, _, _, some (vl y), _, _, _]) (by decide) (fun _ => rfl) (fun y2 hy2 => ?_)
          refine z_aload_n X dX8_gain_116 rfl ?_
          refine z_getR X dX8_gain_117 f_X8_8 rfl (by first | assumption | exact zbigA.o (by assumption)) (by assumption) ?_
          refine z_sipush X dX8_gain_120 (by decide) ?_
          refine z_iload_n X dX8_gain_123 rfl ?_
          refine z_imul X dX8_gain_124 ?_
          refine z_iload X dX8_gain_125 rfl ?_
          refine z_iadd X dX8_gain_127 ?_
          refine z_lload_n X dX8_gain_128 rfl ?_
          refine z_l2i X dX8_gain_129 ?_
          refine z_iast X (1200 * s + i) dX8_gain_130 (by omega) (by assumption) (by omega) (by omega) ?_
          refine z_lload_n X dX8_gain_131 rfl ?_
          refine z_bipush X dX8_gain_132 (by decide) ?_
          refine z_lushr X dX8_gain_134 32 4294967296 rfl (by decide) (by decide) (by omega) ?_
          refine z_lstore_n X dX8_gain_135 (fun y => [_, _, _, some (vl y), _, _, _]) (by decide) (fun _ => rfl) (fun c2 hc2 => ?_)
          refine z_iinc X dX8_gain_136 rfl (fun y => [_, _, _, _, _, _, some (vi y)]) (fun _ => rfl) (fun z hz => ?_)
          obtain rfl : z = ((i + 1 : Nat) : Int) := by omega
          have hl : y2 = c + zdg (zwd m0 q s) n i + zdg (zwd m0 q b) k i := by unfold zdg; (repeat' split) <;> omega
          refine z_goto X dX8_gain_139 37 (by decide) ?_
          have e7 : zsum 4294967296 (zwd (zms m (q + 1) (1200 * s + i) y2) q s) i = zsum 4294967296 (zwd m q s) i := zsum_congr (fun j hj => by unfold zwd; rw [zms_nk _ _ _ _ _ (by omega)])
          refine ih (i + 1) _ c2 (by omega) (h1.w1 (i := i) rfl (by omega)) (by rw [zms_nq _ _ _ _ _ (by omega)]; exact e1) (by rw [zms_nq _ _ _ _ _ (by omega)]; exact e2) (fun j hj hj2 => by rw [zms_nk _ _ _ _ _ (by omega)]; exact h3 j (by omega) hj2) (by omega) (by omega) ?_ K
          rw [zsum_s, zsum_s, zsum_s, e7, Int.pow_succ, show zwd (zms m (q + 1) (1200 * s + i) y2) q s i = y2 % 4294967296 by unfold zwd; rw [zms_same]]
          exact zstep_add hsum hl (by omega)
      · refine z_aload_n X dX8_gain_56 rfl ?_
        refine z_getR X dX8_gain_57 f_X8_8 rfl (by first | assumption | exact zbigA.o (by assumption)) (by assumption) ?_
        refine z_sipush X dX8_gain_60 (by decide) ?_
        refine z_iload_n X dX8_gain_63 rfl ?_
        refine z_imul X dX8_gain_64 ?_
        refine z_iload X dX8_gain_65 rfl ?_
        refine z_iadd X dX8_gain_67 ?_
        refine z_iald X (1200 * s + i) dX8_gain_68 (by omega) (by assumption) (by omega) (by omega) ?_
        refine z_i2lm X dX8_gain_69 dX8_gain_70 q_X8_64 dX8_gain_73 ?_
        refine z_goto X dX8_gain_74 78 (by decide) ?_
        refine z_ladd X dX8_gain_78 ?_
        refine z_lstore_n X dX8_gain_79 (fun y => [_, _, _, some (vl y), _, _, _]) (by decide) (fun _ => rfl) (fun y1 hy1 => ?_)
        refine z_lload_n X dX8_gain_80 rfl ?_
        refine z_iload X dX8_gain_81 rfl ?_
        refine z_aload_n X dX8_gain_83 rfl ?_
        refine z_getR X dX8_gain_84 f_X8_14 rfl (by first | assumption | exact zbigA.o (by assumption)) (by assumption) ?_
        refine z_iload_n X dX8_gain_87 rfl ?_
        refine z_iald X (b) dX8_gain_88 (by omega) (by assumption) (by omega) (by omega) ?_
        refine z_icmp_ge X dX8_gain_89 113 (by decide) (by omega) (by omega) (fun h89 => ?_) (fun h89 => ?_)
        · refine z_lconst X dX8_gain_113 0 rfl ?_
          refine z_ladd X dX8_gain_114 ?_
          refine z_lstore_n X dX8_gain_115 (fun y => [_, _, _, some (vl y), _, _, _]) (by decide) (fun _ => rfl) (fun y2 hy2 => ?_)
          refine z_aload_n X dX8_gain_116 rfl ?_
          refine z_getR X dX8_gain_117 f_X8_8 rfl (by first | assumption | exact zbigA.o (by assumption)) (by assumption) ?_
          refine z_sipush X dX8_gain_120 (by decide) ?_
          refine z_iload_n X dX8_gain_123 rfl ?_
          refine z_imul X dX8_gain_124 ?_
          refine z_iload X dX8_gain_125 rfl ?_
          refine z_iadd X dX8_gain_127 ?_
          refine z_lload_n X dX8_gain_128 rfl ?_
          refine z_l2i X dX8_gain_129 ?_
          refine z_iast X (1200 * s + i) dX8_gain_130 (by omega) (by assumption) (by omega) (by omega) ?_
          refine z_lload_n X dX8_gain_131 rfl ?_
          refine z_bipush X dX8_gain_132 (by decide) ?_
          refine z_lushr X dX8_gain_134 32 4294967296 rfl (by decide) (by decide) (by omega) ?_
          refine z_lstore_n X dX8_gain_135 (fun y => [_, _, _, some (vl y), _, _, _]) (by decide) (fun _ => rfl) (fun c2 hc2 => ?_)
          refine z_iinc X dX8_gain_136 rfl (fun y => [_, _, _, _, _, _, some (vi y)]) (fun _ => rfl) (fun z hz => ?_)
          obtain rfl : z = ((i + 1 : Nat) : Int) := by omega
          have hl : y2 = c + zdg (zwd m0 q s) n i + zdg (zwd m0 q b) k i := by unfold zdg; (repeat' split) <;> omega
          refine z_goto X dX8_gain_139 37 (by decide) ?_
          have e7 : zsum 4294967296 (zwd (zms m (q + 1) (1200 * s + i) y2) q s) i = zsum 4294967296 (zwd m q s) i := zsum_congr (fun j hj => by unfold zwd; rw [zms_nk _ _ _ _ _ (by omega)])
          refine ih (i + 1) _ c2 (by omega) (h1.w1 (i := i) rfl (by omega)) (by rw [zms_nq _ _ _ _ _ (by omega)]; exact e1) (by rw [zms_nq _ _ _ _ _ (by omega)]; exact e2) (fun j hj hj2 => by rw [zms_nk _ _ _ _ _ (by omega)]; exact h3 j (by omega) hj2) (by omega) (by omega) ?_ K
          rw [zsum_s, zsum_s, zsum_s, e7, Int.pow_succ, show zwd (zms m (q + 1) (1200 * s + i) y2) q s i = y2 % 4294967296 by unfold zwd; rw [zms_same]]
          exact zstep_add hsum hl (by omega)
        · refine z_aload_n X dX8_gain_92 rfl ?_
          refine z_getR X dX8_gain_93 f_X8_8 rfl (by first | assumption | exact zbigA.o (by assumption)) (by assumption) ?_
          refine z_sipush X dX8_gain_96 (by decide) ?_
          refine z_iload_n X dX8_gain_99 rfl ?_
          refine z_imul X dX8_gain_100 ?_
          refine z_iload X dX8_gain_101 rfl ?_
          refine z_iadd X dX8_gain_103 ?_
          refine z_iald X (1200 * b + i) dX8_gain_104 (by omega) (by assumption) (by omega) (by omega) ?_
          refine z_i2lm X dX8_gain_105 dX8_gain_106 q_X8_64 dX8_gain_109 ?_
          refine z_goto X dX8_gain_110 114 (by decide) ?_
          refine z_ladd X dX8_gain_114 ?_
          refine z_lstore_n X dX8_gain_115 (fun y => [_, _, _, some (vl y), _, _, _]) (by decide) (fun _ => rfl) (fun y2 hy2 => ?_)
          refine z_aload_n X dX8_gain_116 rfl ?_
          refine z_getR X dX8_gain_117 f_X8_8 rfl (by first | assumption | exact zbigA.o (by assumption)) (by assumption) ?_
          refine z_sipush X dX8_gain_120 (by decide) ?_
          refine z_iload_n X dX8_gain_123 rfl ?_
          refine z_imul X dX8_gain_124 ?_
          refine z_iload X dX8_gain_125 rfl ?_
          refine z_iadd X dX8_gain_127 ?_
          refine z_lload_n X dX8_gain_128 rfl ?_
          refine z_l2i X dX8_gain_129 ?_
          refine z_iast X (1200 * s + i) dX8_gain_130 (by omega) (by assumption) (by omega) (by omega) ?_
          refine z_lload_n X dX8_gain_131 rfl ?_
          refine z_bipush X dX8_gain_132 (by decide) ?_
          refine z_lushr X dX8_gain_134 32 4294967296 rfl (by decide) (by decide) (by omega) ?_
          refine z_lstore_n X dX8_gain_135 (fun y => [_, _, _, some (vl y), _, _, _]) (by decide) (fun _ => rfl) (fun c2 hc2 => ?_)
          refine z_iinc X dX8_gain_136 rfl (fun y => [_, _, _, _, _, _, some (vi y)]) (fun _ => rfl) (fun z hz => ?_)
          obtain rfl : z = ((i + 1 : Nat) : Int) := by omega
          have hl : y2 = c + zdg (zwd m0 q s) n i + zdg (zwd m0 q b) k i := by unfold zdg; (repeat' split) <;> omega
          refine z_goto X dX8_gain_139 37 (by decide) ?_
          have e7 : zsum 4294967296 (zwd (zms m (q + 1) (1200 * s + i) y2) q s) i = zsum 4294967296 (zwd m q s) i := zsum_congr (fun j hj => by unfold zwd; rw [zms_nk _ _ _ _ _ (by omega)])
          refine ih (i + 1) _ c2 (by omega) (h1.w1 (i := i) rfl (by omega)) (by rw [zms_nq _ _ _ _ _ (by omega)]; exact e1) (by rw [zms_nq _ _ _ _ _ (by omega)]; exact e2) (fun j hj hj2 => by rw [zms_nk _ _ _ _ _ (by omega)]; exact h3 j (by omega) hj2) (by omega) (by omega) ?_ K
          rw [zsum_s, zsum_s, zsum_s, e7, Int.pow_succ, show zwd (zms m (q + 1) (1200 * s + i) y2) q s i = y2 % 4294967296 by unfold zwd; rw [zms_same]]
          exact zstep_add hsum hl (by omega)
theorem c_X8_gain (G : zG) {A : zA} {m : zM} {q s b n k : Nat} {si bi : Int} (hA : zmodA A q) (hsi : si = (s : Int)) (hbi : bi = (b : Int)) (hs : s < 60) (hb : b < 60) (hne : b ≠ s) (hn : m (q + 2) s = (n : Int)) (hn2 : n ≤ 1200) (tn : n ≠ 0 → zwd m q s (n - 1) ≠ 0) (hk : m (q + 2) b = (k : Int)) (hk2 : k ≤ 1200) (tk : k ≠ 0 → zwd m q b (k - 1) ≠ 0) (hfit : zsum 4294967296 (zwd m q s) n + zsum 4294967296 (zwd m q b) k < 4294967296 ^ 1199) :
    zMet G k_X8_gain [vr q, vi si, vi bi] A m (zpv A (fun m' => (∃ n' : Nat, (m' (q + 2) s = (n' : Int) ∧ n' ≤ 1200) ∧ (n' ≠ 0 → zwd m' q s (n' - 1) ≠ 0) ∧ zsum 4294967296 (zwd m' q s) n' = zsum 4294967296 (zwd m q s) n + zsum 4294967296 (zwd m q b) k) ∧ m' (q + 3) s = m (q + 3) s ∧ zsP q (fun x => x = s) m m')) := by
  subst hsi hbi
  obtain ⟨⟨hO0, f0, f1, f2, f3, f4, f5, f6, f7, f8, f9, f10, f11, f12, f16, f24, f25⟩, ⟨g1, g2, g3⟩, ⟨g4, g5, g6, g7, g8, g9⟩, ⟨g10, g11, g12, g13⟩, g14, g15, g16⟩ := id hA
  obtain ⟨e, he⟩ : ∃ e, e = max n k := ⟨_, rfl⟩
  have he2 : e ≤ 1200 := by omega
  refine zMet.of RX8 rfl (by decide +kernel) (Nat.le_of_ble_eq_true rfl) [some (vr q), some (vi (s : Int)), some (vi (b : Int)), none, none, none, none] rfl (fun E hG X hQ hNm => ?_)
  subst hG
  have tail : zW E (0, 0) A m 37 [some (vr q), some (vi (s : Int)), some (vi (b : Int)), some (vl 0), none, some (vi (e : Int)), some (vi 0)] [] := by
    refine zl8_gain X hA hs hb hne hn hk hn2 hk2 he e 0 m 0 (by omega) zsP.rfl' hn rfl (fun _ _ _ => rfl) (by omega) (by omega) (by simp [zsum]) (fun m' c h1 h2 h3 hc0 hc1 hsum => ?_)
    rw [zsum_dg (by omega), zsum_dg (by omega)] at hsum
    have hpe := zpow_pos (b := 4294967296) (by omega) e
    have hz0 := zsum_nonneg (b := 4294967296) (by omega) (f := zwd m' q s) (n := e) (fun i _ => (zwd_bd m' q s i).1)
    have g1 := zsum_nonneg (b := 4294967296) (by omega) (f := zwd m q s) (n := n) (fun i _ => (zwd_bd m q s i).1)
    have g2 := zsum_nonneg (b := 4294967296) (by omega) (f := zwd m q b) (n := k) (fun i _ => (zwd_bd m q b i).1)
    refine z_aload_n X dX8_gain_142 rfl ?_
    refine z_getR X dX8_gain_143 f_X8_14 rfl (by first | assumption | exact zbigA.o (by assumption)) (by assumption) ?_
    refine z_iload_n X dX8_gain_146 rfl ?_
    refine z_iload X dX8_gain_147 rfl ?_
    refine z_iast X (s) dX8_gain_149 (by omega) (by assumption) (by omega) (by omega) ?_
    refine z_lload_n X dX8_gain_150 rfl ?_
    refine z_lconst X dX8_gain_151 0 rfl ?_
    refine z_lcmp_eq X dX8_gain_152 dX8_gain_153 181 (by decide) (by omega) (by omega) (fun h152 => ?_) (fun h152 => ?_)
    · refine z_return (st := []) X rfl hQ dX8_gain_181 ⟨rfl, rfl, ?_⟩
      have hc : c = 0 := by omega
      rw [hc, Int.zero_mul, Int.add_zero] at hsum
      have e4 : ∀ i, zwd (zms m' (q + 2) s (e : Int)) q s i = zwd m' q s i := fun i => by unfold zwd; rw [zms_nq _ _ _ _ _ (by omega)]
      refine ⟨⟨e, ⟨zms_same _ _ _ _, he2⟩, fun h => ?_, by rw [zsum_congr (fun i _ => e4 i)]; exact hsum⟩, by rw [zms_nq _ _ _ _ _ (by omega)]; exact h3, h1.w2 rfl⟩
      rw [e4]
      obtain ⟨d, rfl⟩ : ∃ d, e = d + 1 := ⟨e - 1, by omega⟩
      rw [Nat.add_sub_cancel]
      refine zsum_low (b := 4294967296) (by omega) (fun i _ => zwd_bd m' q s i) ?_
      rw [hsum]
      by_cases hnk : n = d + 1
      · subst hnk
        have := zsum_top (n := d) (b := 4294967296) (by omega) (fun i _ => (zwd_bd m q s i).1) (tn (by omega))
        omega
      · obtain rfl : k = d + 1 := by omega
        have := zsum_top (n := d) (b := 4294967296) (by omega) (fun i _ => (zwd_bd m q b i).1) (tk (by omega))
        omega
    · have hc : c = 1 := by omega
      have he3 : e < 1199 := zpow_lt32 (x := zsum 4294967296 (zwd m q s) n + zsum 4294967296 (zwd m q b) k) (by rw [← hsum, hc]; omega) hfit
      refine z_aload_n X dX8_gain_156 rfl ?_
      refine z_getR X dX8_gain_157 f_X8_8 rfl (by first | assumption | exact zbigA.o (by assumption)) (by assumption) ?_
      refine z_sipush X dX8_gain_160 (by decide) ?_
      refine z_iload_n X dX8_gain_163 rfl ?_
      refine z_imul X dX8_gain_164 ?_
      refine z_iload X dX8_gain_165 rfl ?_
      refine z_iadd X dX8_gain_167 ?_
      refine z_lload_n X dX8_gain_168 rfl ?_
      refine z_l2i X dX8_gain_169 ?_
      refine z_iast X (1200 * s + e) dX8_gain_170 (by omega) (by assumption) (by omega) (by omega) ?_
      refine z_aload_n X dX8_gain_171 rfl ?_
      refine z_getR X dX8_gain_172 f_X8_14 rfl (by first | assumption | exact zbigA.o (by assumption)) (by assumption) ?_
      refine z_iload_n X dX8_gain_175 rfl ?_
      refine z_dup2 X dX8_gain_176 rfl rfl ?_
      skip
      refine z_iald X (s) dX8_gain_177 (by omega) (by assumption) (by omega) (by omega) ?_
      rw [zms_nq _ _ _ _ _ (by omega), zms_same]
      refine z_iconst X dX8_gain_178 ?_
      refine z_iadd X dX8_gain_179 ?_
      refine z_iast X (s) dX8_gain_180 (by omega) (by assumption) (by omega) (by omega) ?_
      refine z_return (st := []) X rfl hQ dX8_gain_181 ⟨rfl, rfl, ?_⟩
      have e4 : ∀ i, i < e → zwd (zms (zms (zms m' (q + 2) s (e : Int)) (q + 1) (1200 * s + e) c) (q + 2) s ((e : Int) + 1)) q s i = zwd m' q s i := fun i hi => by unfold zwd; rw [zms_nq _ _ _ _ _ (by omega), zms_nk _ _ _ _ _ (by omega), zms_nq _ _ _ _ _ (by omega)]
      have e5 : zwd (zms (zms (zms m' (q + 2) s (e : Int)) (q + 1) (1200 * s + e) c) (q + 2) s ((e : Int) + 1)) q s e = c := by unfold zwd; rw [zms_nq _ _ _ _ _ (by omega), zms_same]; omega
      refine ⟨⟨e + 1, ⟨by rw [zms_same]; omega, by omega⟩, fun h => by rw [Nat.add_sub_cancel, e5]; omega, by rw [zsum_s, zsum_congr e4, e5]; exact hsum⟩, ?_, ((h1.w2 rfl).w1 (i := e) rfl (by omega)).w2 rfl⟩
      rw [zms_nq _ _ _ _ _ (by omega), zms_nq _ _ _ _ _ (by omega), zms_nq _ _ _ _ _ (by omega)]
      exact h3
  refine z_lconst X dX8_gain_0 0 rfl ?_
  refine z_lstore_n X dX8_gain_1 (fun y => [_, _, _, some (vl y), _, _, _]) (by decide) (fun _ => rfl) (fun x3_1 hx3_1 => ?_)
  subst hx3_1
  refine z_aload_n X dX8_gain_2 rfl ?_
  refine z_getR X dX8_gain_3 f_X8_14 rfl (by first | assumption | exact zbigA.o (by assumption)) (by assumption) ?_
  refine z_iload_n X dX8_gain_6 rfl ?_
  refine z_iald X (s) dX8_gain_7 (by omega) (by assumption) (by omega) (by omega) ?_
  refine z_aload_n X dX8_gain_8 rfl ?_
  refine z_getR X dX8_gain_9 f_X8_14 rfl (by first | assumption | exact zbigA.o (by assumption)) (by assumption) ?_
  refine z_iload_n X dX8_gain_12 rfl ?_
  refine z_iald X (b) dX8_gain_13 (by omega) (by assumption) (by omega) (by omega) ?_
  refine z_icmp_le X dX8_gain_14 26 (by decide) (by omega) (by omega) (fun h14 => ?_) (fun h14 => ?_)
  · refine z_aload_n X dX8_gain_26 rfl ?_
    refine z_getR X dX8_gain_27 f_X8_14 rfl (by first | assumption | exact zbigA.o (by assumption)) (by assumption) ?_
    refine z_iload_n X dX8_gain_30 rfl ?_
    refine z_iald X (b) dX8_gain_31 (by omega) (by assumption) (by omega) (by omega) ?_
    refine z_istore X dX8_gain_32 (fun y => [_, _, _, _, _, some (vi y), _]) (by decide) (fun _ => rfl) (fun y hy => ?_)
    refine z_iconst X dX8_gain_34 ?_
    refine z_istore X dX8_gain_35 (fun y => [_, _, _, _, _, _, some (vi y)]) (by decide) (fun _ => rfl) (fun x6_35 hx6_35 => ?_)
    subst hx6_35
    obtain rfl : y = (e : Int) := by omega
    exact tail
  · refine z_aload_n X dX8_gain_17 rfl ?_
    refine z_getR X dX8_gain_18 f_X8_14 rfl (by first | assumption | exact zbigA.o (by assumption)) (by assumption) ?_
    refine z_iload_n X dX8_gain_21 rfl ?_
    refine z_iald X (s) dX8_gain_22 (by omega) (by assumption) (by omega) (by omega) ?_
    refine z_goto X dX8_gain_23 32 (by decide) ?_
    refine z_istore X dX8_gain_32 (fun y => [_, _, _, _, _, some (vi y), _]) (by decide) (fun _ => rfl) (fun y hy => ?_)
    refine z_iconst X dX8_gain_34 ?_
    refine z_istore X dX8_gain_35 (fun y => [_, _, _, _, _, _, some (vi y)]) (by decide) (fun _ => rfl) (fun x6_35 hx6_35 => ?_)
    subst hx6_35
    obtain rfl : y = (e : Int) := by omega
    exact tail
theorem zl8_lose {E : zCx} {rm : Room} {cs : Nat × Nat} {A : zA} (X : zOK E cX8_lose RX8 8 none rm) {q s b n k : Nat} (hA : zmodA A q) (hs : s < 60) (hb : b < 60) (hne : b ≠ s) {m0 : zM} (hn : m0 (q + 2) s = (n : Int)) (hk : m0 (q + 2) b = (k : Int)) (hn2 : n ≤ 1200) (hk2 : k ≤ 1200) : ∀ (r i : Nat) (m : zM) (c : Int) (l6 l7 : Option Value), i + r = n → zsP q (fun x => x = s) m0 m → m (q + 2) s = (n : Int) → m (q + 3) s = m0 (q + 3) s → (∀ j, i ≤ j → j < 1200 → m (q + 1) (1200 * s + j) = m0 (q + 1) (1200 * s + j)) → 0 ≤ c → c ≤ 1 → zsum 4294967296 (zwd m q s) i + (-c) * 4294967296 ^ i = zsum 4294967296 (zwd m0 q s) i - zsum 4294967296 (zdg (zwd m0 q b) k) i →
    (∀ (m' : zM) (c : Int) (l6 l7 : Option Value), zsP q (fun x => x = s) m0 m' → m' (q + 2) s = (n : Int) → m' (q + 3) s = m0 (q + 3) s → 0 ≤ c → c ≤ 1 → zsum 4294967296 (zwd m' q s) n + (-c) * 4294967296 ^ n = zsum 4294967296 (zwd m0 q s) n - zsum 4294967296 (zdg (zwd m0 q b) k) n → zW E cs A m' 107 [some (vr q), some (vi (s : Int)), some (vi (b : Int)), some (vl c), none, some (vi (n : Int)), l6, l7] []) → zW E cs A m 5 [some (vr q), some (vi (s : Int)), some (vi (b : Int)), some (vl c), none, some (vi (i : Int)), l6, l7] [] := by
  obtain ⟨⟨hO0, f0, f1, f2, f3, f4, f5, f6, f7, f8, f9, f10, f11, f12, f16, f24, f25⟩, ⟨g1, g2, g3⟩, ⟨g4, g5, g6, g7, g8, g9⟩, ⟨g10, g11, g12, g13⟩, g14, g15, g16⟩ := id hA
  intro r
  induction r with
  | zero =>
    intro i m c l6 l7 hi h1 e1 e2 h3 hc0 hc1 hsum K
    obtain rfl : i = n := by omega
    refine z_iload X dX8_lose_5 rfl ?_
    refine z_aload_n X dX8_lose_7 rfl ?_
    refine z_getR X dX8_lose_8 f_X8_14 rfl (by first | assumption | exact zbigA.o (by assumption)) (by assumption) ?_
    refine z_iload_n X dX8_lose_11 rfl ?_
    refine z_iald X (s) dX8_lose_12 (by omega) (by assumption) (by omega) (by omega) ?_
    refine z_icmp_ge X dX8_lose_13 107 (by decide) (by omega) (by omega) (fun h13 => ?_) (fun h13 => ?_)
    · exact K m c _ _ h1 e1 e2 hc0 hc1 hsum
    · exact absurd h13 (by omega)
  | succ r ih =>
    intro i m c l6 l7 hi h1 e1 e2 h3 hc0 hc1 hsum K
    have eb : m (q + 2) b = (k : Int) := (h1.2 b hne).1.trans hk
    have w1 := zwd_bd m0 q s i
    have w2 := zwd_bd m0 q b i
    have e3 : m (q + 1) (1200 * s + i) % 4294967296 = zwd m0 q s i := by rw [h3 i (by omega) (by omega)]; rfl
    have e4 : m (q + 1) (1200 * b + i) % 4294967296 = zwd m0 q b i := by rw [(h1.2 b hne).2.2 i (by omega)]; rfl
    refine z_iload X dX8_lose_5 rfl ?_
    refine z_aload_n X dX8_lose_7 rfl ?_
    refine z_getR X dX8_lose_8 f_X8_14 rfl (by first | assumption | exact zbigA.o (by assumption)) (by assumption) ?_
    refine z_iload_n X dX8_lose_11 rfl ?_
    refine z_iald X (s) dX8_lose_12 (by omega) (by assumption) (by omega) (by omega) ?_
    refine z_icmp_ge X dX8_lose_13 107 (by decide) (by omega) (by omega) (fun h13 => ?_) (fun h13 => ?_)
    · exact absurd h13 (by omega)
    · refine z_aload_n X dX8_lose_16 rfl ?_
      refine z_getR X dX8_lose_17 f_X8_8 rfl (by first | assumption | exact zbigA.o (by assumption)) (by assumption) ?_
      refine z_sipush X dX8_lose_20 (by decide) ?_
      refine z_iload_n X dX8_lose_23 rfl ?_
      refine z_imul X dX8_lose_24 ?_
      refine z_iload X dX8_lose_25 rfl ?_
      refine z_iadd X dX8_lose_27 ?_
      refine z_iald X (1200 * s + i) dX8_lose_28 (by omega) (by assumption) (by omega) (by omega) ?_
      refine z_i2lm X dX8_lose_29 dX8_lose_30 q_X8_64 dX8_lose_33 ?_
      refine z_lload_n X dX8_lose_34 rfl ?_
      refine z_lsub X dX8_lose_35 ?_
      refine z_iload X dX8_lose_36 rfl ?_
      refine z_aload_n X dX8_lose_38 rfl ?_
      refine z_getR X dX8_lose_39 f_X8_14 rfl (by first | assumption | exact zbigA.o (by assumption)) (by assumption) ?_
      refine z_iload_n X dX8_lose_42 rfl ?_
      refine z_iald X (b) dX8_lose_43 (by omega) (by assumption) (by omega) (by omega) ?_
      refine z_icmp_ge X dX8_lose_44 68 (by decide) (by omega) (by omega) (fun h44 => ?_) (fun h44 => ?_)
      · refine z_lconst X dX8_lose_68 0 rfl ?_
        refine z_lsub X dX8_lose_69 ?_
        refine z_lstore X dX8_lose_70 (fun y => [_, _, _, _, _, _, some (vl y), _]) (by decide) (fun _ => rfl) (fun y hy => ?_)
        have hl : y = zwd m0 q s i + (-c) - zdg (zwd m0 q b) k i := by unfold zdg; split <;> omega
        have hyb : -4294967296 ≤ y ∧ y < 4294967296 := by omega
        refine z_aload_n X dX8_lose_72 rfl ?_
        refine z_getR X dX8_lose_73 f_X8_8 rfl (by first | assumption | exact zbigA.o (by assumption)) (by assumption) ?_
        refine z_sipush X dX8_lose_76 (by decide) ?_
        refine z_iload_n X dX8_lose_79 rfl ?_
        refine z_imul X dX8_lose_80 ?_
        refine z_iload X dX8_lose_81 rfl ?_
        refine z_iadd X dX8_lose_83 ?_
        refine z_lload X dX8_lose_84 rfl ?_
        refine z_l2i X dX8_lose_86 ?_
        refine z_iast X (1200 * s + i) dX8_lose_87 (by omega) (by assumption) (by omega) (by omega) ?_
        refine z_lload X dX8_lose_88 rfl ?_
        refine z_lconst X dX8_lose_90 0 rfl ?_
        refine z_lcmp_ge X dX8_lose_91 dX8_lose_92 99 (by decide) (by omega) (by omega) (fun h91 => ?_) (fun h91 => ?_)
        · refine z_lconst X dX8_lose_99 0 rfl ?_
          refine z_lstore_n X dX8_lose_100 (fun y => [_, _, _, some (vl y), _, _, _, _]) (by decide) (fun _ => rfl) (fun c2 hc2 => ?_)
          refine z_iinc X dX8_lose_101 rfl (fun y => [_, _, _, _, _, some (vi y), _, _]) (fun _ => rfl) (fun z hz => ?_)
          obtain rfl : z = ((i + 1 : Nat) : Int) := by omega
          refine z_goto X dX8_lose_104 5 (by decide) ?_
          have e7 : zsum 4294967296 (zwd (zms m (q + 1) (1200 * s + i) y) q s) i = zsum 4294967296 (zwd m q s) i := zsum_congr (fun j hj => by unfold zwd; rw [zms_nk _ _ _ _ _ (by omega)])
          refine ih (i + 1) _ c2 _ _ (by omega) (h1.w1 (i := i) rfl (by omega)) (by rw [zms_nq _ _ _ _ _ (by omega)]; exact e1) (by rw [zms_nq _ _ _ _ _ (by omega)]; exact e2) (fun j hj hj2 => by rw [zms_nk _ _ _ _ _ (by omega)]; exact h3 j (by omega) hj2) (by omega) (by omega) ?_ K
          rw [zsum_s, zsum_s, zsum_s, e7, Int.pow_succ, show zwd (zms m (q + 1) (1200 * s + i) y) q s i = y % 4294967296 by unfold zwd; rw [zms_same]]
          exact zstep_sub hsum hl (by omega)
        · refine z_lconst X dX8_lose_95 1 rfl ?_
          refine z_goto X dX8_lose_96 100 (by decide) ?_
          refine z_lstore_n X dX8_lose_100 (fun y => [_, _, _, some (vl y), _, _, _, _]) (by decide) (fun _ => rfl) (fun c2 hc2 => ?_)
          refine z_iinc X dX8_lose_101 rfl (fun y => [_, _, _, _, _, some (vi y), _, _]) (fun _ => rfl) (fun z hz => ?_)
          obtain rfl : z = ((i + 1 : Nat) : Int) := by omega
          refine z_goto X dX8_lose_104 5 (by decide) ?_
          have e7 : zsum 4294967296 (zwd (zms m (q + 1) (1200 * s + i) y) q s) i = zsum 4294967296 (zwd m q s) i := zsum_congr (fun j hj => by unfold zwd; rw [zms_nk _ _ _ _ _ (by omega)])
          refine ih (i + 1) _ c2 _ _ (by omega) (h1.w1 (i := i) rfl (by omega)) (by rw [zms_nq _ _ _ _ _ (by omega)]; exact e1) (by rw [zms_nq _ _ _ _ _ (by omega)]; exact e2) (fun j hj hj2 => by rw [zms_nk _ _ _ _ _ (by omega)]; exact h3 j (by omega) hj2) (by omega) (by omega) ?_ K
          rw [zsum_s, zsum_s, zsum_s, e7, Int.pow_succ, show zwd (zms m (q + 1) (1200 * s + i) y) q s i = y % 4294967296 by unfold zwd; rw [zms_same]]
          exact zstep_sub hsum hl (by omega)
      · refine z_aload_n X dX8_lose_47 rfl ?_
        refine z_getR X dX8_lose_48 f_X8_8 rfl (by first | assumption | exact zbigA.o (by assumption)) (by assumption) ?_
        refine z_sipush X dX8_lose_51 (by decide) ?_
        refine z_iload_n X dX8_lose_54 rfl ?_
        refine z_imul X dX8_lose_55 ?_
        refine z_iload X dX8_lose_56 rfl ?_
        refine z_iadd X dX8_lose_58 ?_
        refine z_iald X (1200 * b + i) dX8_lose_59 (by omega) (by assumption) (by omega) (by omega) ?_
        refine z_i2lm X dX8_lose_60 dX8_lose_61 q_X8_64 dX8_lose_64 ?_
        refine z_goto X dX8_lose_65 69 (by decide) ?_
        refine z_lsub X dX8_lose_69 ?_
        refine z_lstore X dX8_lose_70 (fun y => [_, _, _, _, _, _, some (vl y), _]) (by decide) (fun _ => rfl) (fun y hy => ?_)
        have hl : y = zwd m0 q s i + (-c) - zdg (zwd m0 q b) k i := by unfold zdg; split <;> omega
        have hyb : -4294967296 ≤ y ∧ y < 4294967296 := by omega
        refine z_aload_n X dX8_lose_72 rfl ?_
        refine z_getR X dX8_lose_73 f_X8_8 rfl (by first | assumption | exact zbigA.o (by assumption)) (by assumption) ?_
        refine z_sipush X dX8_lose_76 (by decide) ?_
        refine z_iload_n X dX8_lose_79 rfl ?_
        refine z_imul X dX8_lose_80 ?_
        refine z_iload X dX8_lose_81 rfl ?_
        refine z_iadd X dX8_lose_83 ?_
        refine z_lload X dX8_lose_84 rfl ?_
        refine z_l2i X dX8_lose_86 ?_
        refine z_iast X (1200 * s + i) dX8_lose_87 (by omega) (by assumption) (by omega) (by omega) ?_
        refine z_lload X dX8_lose_88 rfl ?_
        refine z_lconst X dX8_lose_90 0 rfl ?_
        refine z_lcmp_ge X dX8_lose_91 dX8_lose_92 99 (by decide) (by omega) (by omega) (fun h91 => ?_) (fun h91 => ?_)
        · refine z_lconst X dX8_lose_99 0 rfl ?_
          refine z_lstore_n X dX8_lose_100 (fun y => [_, _, _, some (vl y), _, _, _, _]) (by decide) (fun _ => rfl) (fun c2 hc2 => ?_)
          refine z_iinc X dX8_lose_101 rfl (fun y => [_, _, _, _, _, some (vi y), _, _]) (fun _ => rfl) (fun z hz => ?_)
          obtain rfl : z = ((i + 1 : Nat) : Int) := by omega
          refine z_goto X dX8_lose_104 5 (by decide) ?_
          have e7 : zsum 4294967296 (zwd (zms m (q + 1) (1200 * s + i) y) q s) i = zsum 4294967296 (zwd m q s) i := zsum_congr (fun j hj => by unfold zwd; rw [zms_nk _ _ _ _ _ (by omega)])
          refine ih (i + 1) _ c2 _ _ (by omega) (h1.w1 (i := i) rfl (by omega)) (by rw [zms_nq _ _ _ _ _ (by omega)]; exact e1) (by rw [zms_nq _ _ _ _ _ (by omega)]; exact e2) (fun j hj hj2 => by rw [zms_nk _ _ _ _ _ (by omega)]; exact h3 j (by omega) hj2) (by omega) (by omega) ?_ K
          rw [zsum_s, zsum_s, zsum_s, e7, Int.pow_succ, show zwd (zms m (q + 1) (1200 * s + i) y) q s i = y % 4294967296 by unfold zwd; rw [zms_same]]
          exact zstep_sub hsum hl (by omega)
        · refine z_lconst X dX8_lose_95 1 rfl ?_
          refine z_goto X dX8_lose_96 100 (by decide) ?_
          refine z_lstore_n X dX8_lose_100 (fun y => [_, _, _, some (vl y), _, _, _, _]) (by decide) (fun _ => rfl) (fun c2 hc2 => ?_)
          refine z_iinc X dX8_lose_101 rfl (fun y => [_, _, _, _, _, some (vi y), _, _]) (fun _ => rfl) (fun z hz => ?_)
          obtain rfl : z = ((i + 1 : Nat) : Int) := by omega
          refine z_goto X dX8_lose_104 5 (by decide) ?_
          have e7 : zsum 4294967296 (zwd (zms m (q + 1) (1200 * s + i) y) q s) i = zsum 4294967296 (zwd m q s) i := zsum_congr (fun j hj => by unfold zwd; rw [zms_nk _ _ _ _ _ (by omega)])
          refine ih (i + 1) _ c2 _ _ (by omega) (h1.w1 (i := i) rfl (by omega)) (by rw [zms_nq _ _ _ _ _ (by omega)]; exact e1) (by rw [zms_nq _ _ _ _ _ (by omega)]; exact e2) (fun j hj hj2 => by rw [zms_nk _ _ _ _ _ (by omega)]; exact h3 j (by omega) hj2) (by omega) (by omega) ?_ K
          rw [zsum_s, zsum_s, zsum_s, e7, Int.pow_succ, show zwd (zms m (q + 1) (1200 * s + i) y) q s i = y % 4294967296 by unfold zwd; rw [zms_same]]
          exact zstep_sub hsum hl (by omega)
theorem zlen_le32 {f g : Nat → Int} {n k : Nat} (hf : ∀ i, i < n → 0 ≤ f i ∧ f i < 4294967296) (hg : ∀ i, i < k → 0 ≤ g i ∧ g i < 4294967296) (ht : k ≠ 0 → g (k - 1) ≠ 0) (h : zsum 4294967296 g k ≤ zsum 4294967296 f n) : k ≤ n := by
  rcases Nat.lt_or_ge n k with hk | hk
  · have := zsum_len (b := 4294967296) (by omega) hf hg hk (ht (by omega))
    omega
  · exact hk
theorem c_X8_lose (G : zG) {A : zA} {m : zM} {q s b : Nat} {si bi v w u : Int} (hA : zmodA A q) (hsi : si = (s : Int)) (hbi : bi = (b : Int)) (hs : s < 60) (hb : b < 60) (hne : b ≠ s) (hv : zsl m q s v) (hw : zsl m q b w) (hu : (u.natAbs : Int) = v.natAbs - w.natAbs) (hu2 : (0 ≤ v ∧ 0 ≤ u) ∨ (v < 0 ∧ u ≤ 0)) :
    zMet G k_X8_lose [vr q, vi si, vi bi] A m (zpv A (fun m' => zsl m' q s u ∧ zsP q (fun x => x = s) m m')) := by
  subst hsi hbi
  obtain ⟨⟨hO0, f0, f1, f2, f3, f4, f5, f6, f7, f8, f9, f10, f11, f12, f16, f24, f25⟩, ⟨g1, g2, g3⟩, ⟨g4, g5, g6, g7, g8, g9⟩, ⟨g10, g11, g12, g13⟩, g14, g15, g16⟩ := id hA
  obtain ⟨n, ⟨hn, hn2⟩, tn, vn, sn⟩ := hv
  obtain ⟨k, ⟨hk, hk2⟩, tk, vk, sk⟩ := hw
  have hkn : k ≤ n := zlen_le32 (fun i _ => zwd_bd m q s i) (fun i _ => zwd_bd m q b i) tk (by omega)
  refine zMet.of RX8 rfl (by decide +kernel) (Nat.le_of_ble_eq_true rfl) [some (vr q), some (vi (s : Int)), some (vi (b : Int)), none, none, none, none, none] rfl (fun E hG X hQ hNm => ?_)
  subst hG
  refine z_lconst X dX8_lose_0 0 rfl ?_
  refine z_lstore_n X dX8_lose_1 (fun y => [_, _, _, some (vl y), _, _, _, _]) (by decide) (fun _ => rfl) (fun x3_1 hx3_1 => ?_)
  subst hx3_1
  refine z_iconst X dX8_lose_2 ?_
  refine z_istore X dX8_lose_3 (fun y => [_, _, _, _, _, some (vi y), _, _]) (by decide) (fun _ => rfl) (fun x5_3 hx5_3 => ?_)
  subst hx5_3
  refine zl8_lose X hA hs hb hne hn hk hn2 hk2 n 0 m 0 none none (by omega) zsP.rfl' hn rfl (fun _ _ _ => rfl) (by omega) (by omega) (by simp [zsum]) (fun m' c l6 l7 h1 h2 h3 hc0 hc1 hsum => ?_)
  rw [zsum_dg hkn] at hsum
  have g1 := zsum_lt (b := 4294967296) (by omega) (f := zwd m' q s) (n := n) (fun i _ => zwd_bd m' q s i)
  have hc : c = 0 := by
    rcases (show c = 0 ∨ c = 1 by omega) with h | h
    · exact h
    · rw [h] at hsum; omega
  rw [hc] at hsum
  refine z_aload_n X dX8_lose_107 rfl ?_
  refine z_iload_n X dX8_lose_108 rfl ?_
  refine z_callVv X (As := [_]) dX8_lose_109 m_X8_trim i_X8_trim l_X8_66 (c_X8_trim (zg E) (v := u) hA rfl hs h2 hn2 (by omega) (by rw [h3]; omega)) (by first | assumption | exact zbigA.o (by assumption)) rfl rfl rfl (Nat.le_of_ble_eq_true rfl) ⟨Nat.le_of_ble_eq_true rfl, Nat.le_of_ble_eq_true rfl⟩ ⟨Nat.le_of_ble_eq_true rfl, Nat.le_of_ble_eq_true rfl⟩ ⟨rfl, rfl⟩ (fun m2 hm => ?_)
  refine z_return (st := []) X rfl hQ dX8_lose_112 ⟨rfl, rfl, ?_⟩
  exact ⟨hm.1, h1.t hm.2⟩
theorem c_X8_add (G : zG) {A : zA} {m : zM} {q s b : Nat} {si bi lb v w u : Int} (hA : zmodA A q) (hsi : si = (s : Int)) (hbi : bi = (b : Int)) (hs : s < 59) (hb : b < 59) (hne : b ≠ s) (hl : lb = 0 ∨ lb = 1) (hv : zsl m q s v) (hw : zsl m q b w) (bv : zle v 38000) (bw : zle w 38000) (hu : (lb = 0 ∧ u = v + w) ∨ (lb = 1 ∧ u = v - w)) :
    zMet G k_X8_add [vr q, vi si, vi bi, vi lb] A m (zpv A (fun m' => zsl m' q s u ∧ zsP q (fun x => x = s ∨ x = 59) m m')) := by
  subst hsi hbi
  obtain ⟨⟨hO0, f0, f1, f2, f3, f4, f5, f6, f7, f8, f9, f10, f11, f12, f16, f24, f25⟩, ⟨g1, g2, g3⟩, ⟨g4, g5, g6, g7, g8, g9⟩, ⟨g10, g11, g12, g13⟩, g14, g15, g16⟩ := id hA
  obtain ⟨n, ⟨hn, hn2⟩, tn, vn, sn⟩ := id hv
  obtain ⟨k, ⟨hk, hk2⟩, tk, vk, sk⟩ := id hw
  have nz : n = 0 ↔ v = 0 := by
    constructor
    · intro h; rw [h, zsum_0] at vn; omega
    · intro h
      rcases Nat.eq_zero_or_pos n with g | g
      · exact g
      · obtain ⟨d, rfl⟩ : ∃ d, n = d + 1 := ⟨n - 1, by omega⟩
        have g1 := zsum_top (b := 4294967296) (n := d) (by omega) (fun i _ => (zwd_bd m q s i).1) (tn (by omega))
        have g2 := zpow_pos (b := 4294967296) (by omega) d
        omega
  have kz : k = 0 ↔ w = 0 := by
    constructor
    · intro h; rw [h, zsum_0] at vk; omega
    · intro h
      rcases Nat.eq_zero_or_pos k with g | g
      · exact g
      · obtain ⟨d, rfl⟩ : ∃ d, k = d + 1 := ⟨k - 1, by omega⟩
        have g1 := zsum_top (b := 4294967296) (n := d) (by omega) (fun i _ => (zwd_bd m q b i).1) (tk (by omega))
        have g2 := zpow_pos (b := 4294967296) (by omega) d
        omega
  have hfit : zsum 4294967296 (zwd m q s) n + zsum 4294967296 (zwd m q b) k < 4294967296 ^ 1199 := by
    rw [← vn, ← vk, zB32]
    unfold zle at bv bw
    have : 2 ^ (32 * 1199) = 2 ^ 38000 * 2 ^ 368 := by rw [← Nat.pow_add]
    have h2 : 2 ^ 2 ≤ 2 ^ 368 := Nat.pow_le_pow_right (by omega) (by omega)
    have h3 : 2 ^ 38000 * 2 ^ 2 ≤ 2 ^ 38000 * 2 ^ 368 := Nat.mul_le_mul_left _ h2
    have h4 := Nat.pow_pos (n := 38000) (by omega : 0 < 2)
    generalize 2 ^ 38000 = p at *
    generalize 2 ^ (32 * 1199) = p2 at *
    omega
  refine zMet.of RX8 rfl (by decide +kernel) (Nat.le_of_ble_eq_true rfl) [some (vr q), some (vi (s : Int)), some (vi (b : Int)), some (vi lb), none] rfl (fun E hG X hQ hNm => ?_)
  subst hG
  have tail : ∀ sg : Int, ((sg = 1 ∧ u - v < 0) ∨ (sg = 0 ∧ 0 ≤ u - v)) → zW E (0, 0) A m 26 [some (vr q), some (vi (s : Int)), some (vi (b : Int)), some (vi lb), some (vi sg)] [] := by
    intro sg hsg2
    refine z_aload_n X dX8_add_26 rfl ?_
    refine z_getR X dX8_add_27 f_X8_14 rfl (by first | assumption | exact zbigA.o (by assumption)) (by assumption) ?_
    refine z_iload_n X dX8_add_30 rfl ?_
    refine z_iald X (s) dX8_add_31 (by omega) (by assumption) (by omega) (by omega) ?_
    refine z_if_eq X dX8_add_32 46 (by decide) (by omega) (fun h32 => ?_) (fun h32 => ?_)
    · refine z_aload_n X dX8_add_46 rfl ?_
      refine z_iload_n X dX8_add_47 rfl ?_
      refine z_iload_n X dX8_add_48 rfl ?_
      refine z_callVv X (As := [_, _]) dX8_add_49 m_X8_gain i_X8_gain l_X8_70 (c_X8_gain (zg E) hA rfl rfl (by omega) (by omega) hne hn hn2 tn hk hk2 tk hfit) (by first | assumption | exact zbigA.o (by assumption)) rfl rfl rfl (Nat.le_of_ble_eq_true rfl) ⟨Nat.le_of_ble_eq_true rfl, Nat.le_of_ble_eq_true rfl⟩ ⟨Nat.le_of_ble_eq_true rfl, Nat.le_of_ble_eq_true rfl⟩ ⟨rfl, rfl⟩ (fun m1 hm => ?_)
      obtain ⟨⟨n', ⟨n1, n2⟩, n3, n4⟩, n5, n6⟩ := hm
      have hun : (u.natAbs : Int) = zsum 4294967296 (zwd m1 q s) n' := by omega
      have uz : n' = 0 ↔ u = 0 := by
        constructor
        · intro h; rw [h, zsum_0] at hun; omega
        · intro h
          rcases Nat.eq_zero_or_pos n' with g | g
          · exact g
          · obtain ⟨d, rfl⟩ : ∃ d, n' = d + 1 := ⟨n' - 1, by omega⟩
            have g1 := zsum_top (b := 4294967296) (n := d) (by omega) (fun i _ => (zwd_bd m1 q s i).1) (n3 (by omega))
            have g2 := zpow_pos (b := 4294967296) (by omega) d
            omega
      have fin : ∀ (m2 : zM) (x : Int), m2 (q + 1) = m1 (q + 1) → m2 (q + 2) = m1 (q + 2) → m2 (q + 3) s = x → ((x = 0 ∧ 0 ≤ u) ∨ (x = 1 ∧ u < 0)) → zsP q (fun x => x = s) m m2 → zsl m2 q s u ∧ zsP q (fun x => x = s ∨ x = 59) m m2 := fun m2 x a1 a2 a3 a4 a5 => by
        have e4 : ∀ i, zwd m2 q s i = zwd m1 q s i := fun i => by unfold zwd; rw [a1]
        exact ⟨⟨n', ⟨by rw [a2]; exact n1, n2⟩, fun h => by rw [e4]; exact n3 h, hun.trans (zsum_congr (fun i _ => (e4 i).symm)), by rw [a3]; exact a4⟩, a5.mono (fun _ h => Or.inl h)⟩
      have k1 : ∀ x : Int, zms m1 (q + 3) s x (q + 2) b = (k : Int) := fun x => by rw [zms_nq _ _ _ _ _ (by omega), (n6.2 b hne).1, hk]
      have k2 : ∀ x : Int, zms m1 (q + 3) s x (q + 2) s = (n' : Int) := fun x => by rw [zms_nq _ _ _ _ _ (by omega), n1]
      refine z_aload_n X dX8_add_52 rfl ?_
      refine z_getR X dX8_add_53 f_X8_17 rfl (by first | assumption | exact zbigA.o (by assumption)) (by assumption) ?_
      refine z_iload_n X dX8_add_56 rfl ?_
      refine z_aload_n X dX8_add_57 rfl ?_
      refine z_getR X dX8_add_58 f_X8_14 rfl (by first | assumption | exact zbigA.o (by assumption)) (by assumption) ?_
      refine z_iload_n X dX8_add_61 rfl ?_
      refine z_iald X (s) dX8_add_62 (by omega) (by assumption) (by omega) (by omega) ?_
      refine z_if_le X dX8_add_63 75 (by decide) (by omega) (fun h63 => ?_) (fun h63 => ?_)
      · refine z_iconst X dX8_add_75 ?_
        refine z_bast X (s) dX8_add_76 (by omega) (by first | exact Or.inl rfl | exact Or.inr rfl | omega) (by assumption) (by omega) (by omega) ?_
        refine z_aload_n X dX8_add_77 rfl ?_
        refine z_getR X dX8_add_78 f_X8_14 rfl (by first | assumption | exact zbigA.o (by assumption)) (by assumption) ?_
        refine z_iload_n X dX8_add_81 rfl ?_
        skip
        refine z_iald X (b) dX8_add_82 (by omega) (by assumption) (by omega) (by omega) ?_
        rw [k1]
        refine z_if_ne X dX8_add_83 182 (by decide) (by omega) (fun h83 => ?_) (fun h83 => ?_)
        · skip
          refine z_return (st := []) X rfl hQ dX8_add_182 ⟨rfl, rfl, ?_⟩
          first
          | exact ⟨hm2.1, hm2.2.mono (fun _ h => Or.inl h)⟩
          | exact fin _ (by omega)
          | exact fin _ _ (funext (fun j => zms_nq _ _ _ _ _ (by omega))) (funext (fun j => zms_nq _ _ _ _ _ (by omega))) (zms_same _ _ _ _) (by omega) (n6.w3 rfl)
          | exact fin _ _ (funext (fun j => (zms_nq _ _ _ _ _ (by omega)).trans (zms_nq _ _ _ _ _ (by omega)))) (funext (fun j => (zms_nq _ _ _ _ _ (by omega)).trans (zms_nq _ _ _ _ _ (by omega)))) (zms_same _ _ _ _) (by omega) ((n6.w3 rfl).w3 rfl)
          | (exfalso; omega)
        · refine z_aload_n X dX8_add_86 rfl ?_
          refine z_getR X dX8_add_87 f_X8_17 rfl (by first | assumption | exact zbigA.o (by assumption)) (by assumption) ?_
          refine z_iload_n X dX8_add_90 rfl ?_
          refine z_aload_n X dX8_add_91 rfl ?_
          refine z_getR X dX8_add_92 f_X8_17 rfl (by first | assumption | exact zbigA.o (by assumption)) (by assumption) ?_
          refine z_iload_n X dX8_add_95 rfl ?_
          refine z_bald X (s) dX8_add_96 (by omega) (by assumption) (by omega) (by omega) ?_
          rw [zms_same]
          refine z_if_eq X dX8_add_97 113 (by decide) (by omega) (fun h97 => ?_) (fun h97 => ?_)
          · refine z_iconst X dX8_add_113 ?_
            refine z_bast X (s) dX8_add_114 (by omega) (by first | exact Or.inl rfl | exact Or.inr rfl | omega) (by assumption) (by omega) (by omega) ?_
            refine z_goto X dX8_add_115 182 (by decide) ?_
            skip
            refine z_return (st := []) X rfl hQ dX8_add_182 ⟨rfl, rfl, ?_⟩
            first
            | exact ⟨hm2.1, hm2.2.mono (fun _ h => Or.inl h)⟩
            | exact fin _ (by omega)
            | exact fin _ _ (funext (fun j => zms_nq _ _ _ _ _ (by omega))) (funext (fun j => zms_nq _ _ _ _ _ (by omega))) (zms_same _ _ _ _) (by omega) (n6.w3 rfl)
            | exact fin _ _ (funext (fun j => (zms_nq _ _ _ _ _ (by omega)).trans (zms_nq _ _ _ _ _ (by omega)))) (funext (fun j => (zms_nq _ _ _ _ _ (by omega)).trans (zms_nq _ _ _ _ _ (by omega)))) (zms_same _ _ _ _) (by omega) ((n6.w3 rfl).w3 rfl)
            | (exfalso; omega)
          · refine z_aload_n X dX8_add_100 rfl ?_
            refine z_getR X dX8_add_101 f_X8_14 rfl (by first | assumption | exact zbigA.o (by assumption)) (by assumption) ?_
            refine z_iload_n X dX8_add_104 rfl ?_
            refine z_iald X (s) dX8_add_105 (by omega) (by assumption) (by omega) (by omega) ?_
            rw [k2]
            refine z_if_le X dX8_add_106 113 (by decide) (by omega) (fun h106 => ?_) (fun h106 => ?_)
            · refine z_iconst X dX8_add_113 ?_
              refine z_bast X (s) dX8_add_114 (by omega) (by first | exact Or.inl rfl | exact Or.inr rfl | omega) (by assumption) (by omega) (by omega) ?_
              refine z_goto X dX8_add_115 182 (by decide) ?_
              skip
              refine z_return (st := []) X rfl hQ dX8_add_182 ⟨rfl, rfl, ?_⟩
              first
              | exact ⟨hm2.1, hm2.2.mono (fun _ h => Or.inl h)⟩
              | exact fin _ (by omega)
              | exact fin _ _ (funext (fun j => zms_nq _ _ _ _ _ (by omega))) (funext (fun j => zms_nq _ _ _ _ _ (by omega))) (zms_same _ _ _ _) (by omega) (n6.w3 rfl)
              | exact fin _ _ (funext (fun j => (zms_nq _ _ _ _ _ (by omega)).trans (zms_nq _ _ _ _ _ (by omega)))) (funext (fun j => (zms_nq _ _ _ _ _ (by omega)).trans (zms_nq _ _ _ _ _ (by omega)))) (zms_same _ _ _ _) (by omega) ((n6.w3 rfl).w3 rfl)
              | (exfalso; omega)
            · refine z_iconst X dX8_add_109 ?_
              refine z_goto X dX8_add_110 114 (by decide) ?_
              refine z_bast X (s) dX8_add_114 (by omega) (by first | exact Or.inl rfl | exact Or.inr rfl | omega) (by assumption) (by omega) (by omega) ?_
              refine z_goto X dX8_add_115 182 (by decide) ?_
              skip
              refine z_return (st := []) X rfl hQ dX8_add_182 ⟨rfl, rfl, ?_⟩
              first
              | exact ⟨hm2.1, hm2.2.mono (fun _ h => Or.inl h)⟩
              | exact fin _ (by omega)
              | exact fin _ _ (funext (fun j => zms_nq _ _ _ _ _ (by omega))) (funext (fun j => zms_nq _ _ _ _ _ (by omega))) (zms_same _ _ _ _) (by omega) (n6.w3 rfl)
              | exact fin _ _ (funext (fun j => (zms_nq _ _ _ _ _ (by omega)).trans (zms_nq _ _ _ _ _ (by omega)))) (funext (fun j => (zms_nq _ _ _ _ _ (by omega)).trans (zms_nq _ _ _ _ _ (by omega)))) (zms_same _ _ _ _) (by omega) ((n6.w3 rfl).w3 rfl)
              | (exfalso; omega)
      · refine z_iload X dX8_add_66 rfl ?_
        refine z_if_eq X dX8_add_68 75 (by decide) (by omega) (fun h68 => ?_) (fun h68 => ?_)
        · refine z_iconst X dX8_add_75 ?_
          refine z_bast X (s) dX8_add_76 (by omega) (by first | exact Or.inl rfl | exact Or.inr rfl | omega) (by assumption) (by omega) (by omega) ?_
          refine z_aload_n X dX8_add_77 rfl ?_
          refine z_getR X dX8_add_78 f_X8_14 rfl (by first | assumption | exact zbigA.o (by assumption)) (by assumption) ?_
          refine z_iload_n X dX8_add_81 rfl ?_
          skip
          refine z_iald X (b) dX8_add_82 (by omega) (by assumption) (by omega) (by omega) ?_
          rw [k1]
          refine z_if_ne X dX8_add_83 182 (by decide) (by omega) (fun h83 => ?_) (fun h83 => ?_)
          · skip
            refine z_return (st := []) X rfl hQ dX8_add_182 ⟨rfl, rfl, ?_⟩
            first
            | exact ⟨hm2.1, hm2.2.mono (fun _ h => Or.inl h)⟩
            | exact fin _ (by omega)
            | exact fin _ _ (funext (fun j => zms_nq _ _ _ _ _ (by omega))) (funext (fun j => zms_nq _ _ _ _ _ (by omega))) (zms_same _ _ _ _) (by omega) (n6.w3 rfl)
            | exact fin _ _ (funext (fun j => (zms_nq _ _ _ _ _ (by omega)).trans (zms_nq _ _ _ _ _ (by omega)))) (funext (fun j => (zms_nq _ _ _ _ _ (by omega)).trans (zms_nq _ _ _ _ _ (by omega)))) (zms_same _ _ _ _) (by omega) ((n6.w3 rfl).w3 rfl)
            | (exfalso; omega)
          · refine z_aload_n X dX8_add_86 rfl ?_
            refine z_getR X dX8_add_87 f_X8_17 rfl (by first | assumption | exact zbigA.o (by assumption)) (by assumption) ?_
            refine z_iload_n X dX8_add_90 rfl ?_
            refine z_aload_n X dX8_add_91 rfl ?_
            refine z_getR X dX8_add_92 f_X8_17 rfl (by first | assumption | exact zbigA.o (by assumption)) (by assumption) ?_
            refine z_iload_n X dX8_add_95 rfl ?_
            refine z_bald X (s) dX8_add_96 (by omega) (by assumption) (by omega) (by omega) ?_
            rw [zms_same]
            refine z_if_eq X dX8_add_97 113 (by decide) (by omega) (fun h97 => ?_) (fun h97 => ?_)
            · refine z_iconst X dX8_add_113 ?_
              refine z_bast X (s) dX8_add_114 (by omega) (by first | exact Or.inl rfl | exact Or.inr rfl | omega) (by assumption) (by omega) (by omega) ?_
              refine z_goto X dX8_add_115 182 (by decide) ?_
              skip
              refine z_return (st := []) X rfl hQ dX8_add_182 ⟨rfl, rfl, ?_⟩
              first
              | exact ⟨hm2.1, hm2.2.mono (fun _ h => Or.inl h)⟩
              | exact fin _ (by omega)
              | exact fin _ _ (funext (fun j => zms_nq _ _ _ _ _ (by omega))) (funext (fun j => zms_nq _ _ _ _ _ (by omega))) (zms_same _ _ _ _) (by omega) (n6.w3 rfl)
              | exact fin _ _ (funext (fun j => (zms_nq _ _ _ _ _ (by omega)).trans (zms_nq _ _ _ _ _ (by omega)))) (funext (fun j => (zms_nq _ _ _ _ _ (by omega)).trans (zms_nq _ _ _ _ _ (by omega)))) (zms_same _ _ _ _) (by omega) ((n6.w3 rfl).w3 rfl)
              | (exfalso; omega)
            · refine z_aload_n X dX8_add_100 rfl ?_
              refine z_getR X dX8_add_101 f_X8_14 rfl (by first | assumption | exact zbigA.o (by assumption)) (by assumption) ?_
              refine z_iload_n X dX8_add_104 rfl ?_
              refine z_iald X (s) dX8_add_105 (by omega) (by assumption) (by omega) (by omega) ?_
              rw [k2]
              refine z_if_le X dX8_add_106 113 (by decide) (by omega) (fun h106 => ?_) (fun h106 => ?_)
              · refine z_iconst X dX8_add_113 ?_
                refine z_bast X (s) dX8_add_114 (by omega) (by first | exact Or.inl rfl | exact Or.inr rfl | omega) (by assumption) (by omega) (by omega) ?_
                refine z_goto X dX8_add_115 182 (by decide) ?_
                skip
                refine z_return (st := []) X rfl hQ dX8_add_182 ⟨rfl, rfl, ?_⟩
                first
                | exact ⟨hm2.1, hm2.2.mono (fun _ h => Or.inl h)⟩
                | exact fin _ (by omega)
                | exact fin _ _ (funext (fun j => zms_nq _ _ _ _ _ (by omega))) (funext (fun j => zms_nq _ _ _ _ _ (by omega))) (zms_same _ _ _ _) (by omega) (n6.w3 rfl)
                | exact fin _ _ (funext (fun j => (zms_nq _ _ _ _ _ (by omega)).trans (zms_nq _ _ _ _ _ (by omega)))) (funext (fun j => (zms_nq _ _ _ _ _ (by omega)).trans (zms_nq _ _ _ _ _ (by omega)))) (zms_same _ _ _ _) (by omega) ((n6.w3 rfl).w3 rfl)
                | (exfalso; omega)
              · refine z_iconst X dX8_add_109 ?_
                refine z_goto X dX8_add_110 114 (by decide) ?_
                refine z_bast X (s) dX8_add_114 (by omega) (by first | exact Or.inl rfl | exact Or.inr rfl | omega) (by assumption) (by omega) (by omega) ?_
                refine z_goto X dX8_add_115 182 (by decide) ?_
                skip
                refine z_return (st := []) X rfl hQ dX8_add_182 ⟨rfl, rfl, ?_⟩
                first
                | exact ⟨hm2.1, hm2.2.mono (fun _ h => Or.inl h)⟩
                | exact fin _ (by omega)
                | exact fin _ _ (funext (fun j => zms_nq _ _ _ _ _ (by omega))) (funext (fun j => zms_nq _ _ _ _ _ (by omega))) (zms_same _ _ _ _) (by omega) (n6.w3 rfl)
                | exact fin _ _ (funext (fun j => (zms_nq _ _ _ _ _ (by omega)).trans (zms_nq _ _ _ _ _ (by omega)))) (funext (fun j => (zms_nq _ _ _ _ _ (by omega)).trans (zms_nq _ _ _ _ _ (by omega)))) (zms_same _ _ _ _) (by omega) ((n6.w3 rfl).w3 rfl)
                | (exfalso; omega)
        · refine z_iconst X dX8_add_71 ?_
          refine z_goto X dX8_add_72 76 (by decide) ?_
          refine z_bast X (s) dX8_add_76 (by omega) (by first | exact Or.inl rfl | exact Or.inr rfl | omega) (by assumption) (by omega) (by omega) ?_
          refine z_aload_n X dX8_add_77 rfl ?_
          refine z_getR X dX8_add_78 f_X8_14 rfl (by first | assumption | exact zbigA.o (by assumption)) (by assumption) ?_
          refine z_iload_n X dX8_add_81 rfl ?_
          skip
          refine z_iald X (b) dX8_add_82 (by omega) (by assumption) (by omega) (by omega) ?_
          rw [k1]
          refine z_if_ne X dX8_add_83 182 (by decide) (by omega) (fun h83 => ?_) (fun h83 => ?_)
          · skip
            refine z_return (st := []) X rfl hQ dX8_add_182 ⟨rfl, rfl, ?_⟩
            first
            | exact ⟨hm2.1, hm2.2.mono (fun _ h => Or.inl h)⟩
            | exact fin _ (by omega)
            | exact fin _ _ (funext (fun j => zms_nq _ _ _ _ _ (by omega))) (funext (fun j => zms_nq _ _ _ _ _ (by omega))) (zms_same _ _ _ _) (by omega) (n6.w3 rfl)
            | exact fin _ _ (funext (fun j => (zms_nq _ _ _ _ _ (by omega)).trans (zms_nq _ _ _ _ _ (by omega)))) (funext (fun j => (zms_nq _ _ _ _ _ (by omega)).trans (zms_nq _ _ _ _ _ (by omega)))) (zms_same _ _ _ _) (by omega) ((n6.w3 rfl).w3 rfl)
            | (exfalso; omega)
          · refine z_aload_n X dX8_add_86 rfl ?_
            refine z_getR X dX8_add_87 f_X8_17 rfl (by first | assumption | exact zbigA.o (by assumption)) (by assumption) ?_
            refine z_iload_n X dX8_add_90 rfl ?_
            refine z_aload_n X dX8_add_91 rfl ?_
            refine z_getR X dX8_add_92 f_X8_17 rfl (by first | assumption | exact zbigA.o (by assumption)) (by assumption) ?_
            refine z_iload_n X dX8_add_95 rfl ?_
            refine z_bald X (s) dX8_add_96 (by omega) (by assumption) (by omega) (by omega) ?_
            rw [zms_same]
            refine z_if_eq X dX8_add_97 113 (by decide) (by omega) (fun h97 => ?_) (fun h97 => ?_)
            · refine z_iconst X dX8_add_113 ?_
              refine z_bast X (s) dX8_add_114 (by omega) (by first | exact Or.inl rfl | exact Or.inr rfl | omega) (by assumption) (by omega) (by omega) ?_
              refine z_goto X dX8_add_115 182 (by decide) ?_
              skip
              refine z_return (st := []) X rfl hQ dX8_add_182 ⟨rfl, rfl, ?_⟩
              first
              | exact ⟨hm2.1, hm2.2.mono (fun _ h => Or.inl h)⟩
              | exact fin _ (by omega)
              | exact fin _ _ (funext (fun j => zms_nq _ _ _ _ _ (by omega))) (funext (fun j => zms_nq _ _ _ _ _ (by omega))) (zms_same _ _ _ _) (by omega) (n6.w3 rfl)
              | exact fin _ _ (funext (fun j => (zms_nq _ _ _ _ _ (by omega)).trans (zms_nq _ _ _ _ _ (by omega)))) (funext (fun j => (zms_nq _ _ _ _ _ (by omega)).trans (zms_nq _ _ _ _ _ (by omega)))) (zms_same _ _ _ _) (by omega) ((n6.w3 rfl).w3 rfl)
              | (exfalso; omega)
            · refine z_aload_n X dX8_add_100 rfl ?_
              refine z_getR X dX8_add_101 f_X8_14 rfl (by first | assumption | exact zbigA.o (by assumption)) (by assumption) ?_
              refine z_iload_n X dX8_add_104 rfl ?_
              refine z_iald X (s) dX8_add_105 (by omega) (by assumption) (by omega) (by omega) ?_
              rw [k2]
              refine z_if_le X dX8_add_106 113 (by decide) (by omega) (fun h106 => ?_) (fun h106 => ?_)
              · refine z_iconst X dX8_add_113 ?_
                refine z_bast X (s) dX8_add_114 (by omega) (by first | exact Or.inl rfl | exact Or.inr rfl | omega) (by assumption) (by omega) (by omega) ?_
                refine z_goto X dX8_add_115 182 (by decide) ?_
                skip
                refine z_return (st := []) X rfl hQ dX8_add_182 ⟨rfl, rfl, ?_⟩
                first
                | exact ⟨hm2.1, hm2.2.mono (fun _ h => Or.inl h)⟩
                | exact fin _ (by omega)
                | exact fin _ _ (funext (fun j => zms_nq _ _ _ _ _ (by omega))) (funext (fun j => zms_nq _ _ _ _ _ (by omega))) (zms_same _ _ _ _) (by omega) (n6.w3 rfl)
                | exact fin _ _ (funext (fun j => (zms_nq _ _ _ _ _ (by omega)).trans (zms_nq _ _ _ _ _ (by omega)))) (funext (fun j => (zms_nq _ _ _ _ _ (by omega)).trans (zms_nq _ _ _ _ _ (by omega)))) (zms_same _ _ _ _) (by omega) ((n6.w3 rfl).w3 rfl)
                | (exfalso; omega)
              · refine z_iconst X dX8_add_109 ?_
                refine z_goto X dX8_add_110 114 (by decide) ?_
                refine z_bast X (s) dX8_add_114 (by omega) (by first | exact Or.inl rfl | exact Or.inr rfl | omega) (by assumption) (by omega) (by omega) ?_
                refine z_goto X dX8_add_115 182 (by decide) ?_
                skip
                refine z_return (st := []) X rfl hQ dX8_add_182 ⟨rfl, rfl, ?_⟩
                first
                | exact ⟨hm2.1, hm2.2.mono (fun _ h => Or.inl h)⟩
                | exact fin _ (by omega)
                | exact fin _ _ (funext (fun j => zms_nq _ _ _ _ _ (by omega))) (funext (fun j => zms_nq _ _ _ _ _ (by omega))) (zms_same _ _ _ _) (by omega) (n6.w3 rfl)
                | exact fin _ _ (funext (fun j => (zms_nq _ _ _ _ _ (by omega)).trans (zms_nq _ _ _ _ _ (by omega)))) (funext (fun j => (zms_nq _ _ _ _ _ (by omega)).trans (zms_nq _ _ _ _ _ (by omega)))) (zms_same _ _ _ _) (by omega) ((n6.w3 rfl).w3 rfl)
                | (exfalso; omega)
    · refine z_iload X dX8_add_35 rfl ?_
      refine z_aload_n X dX8_add_37 rfl ?_
      refine z_getR X dX8_add_38 f_X8_17 rfl (by first | assumption | exact zbigA.o (by assumption)) (by assumption) ?_
      refine z_iload_n X dX8_add_41 rfl ?_
      refine z_bald X (s) dX8_add_42 (by omega) (by assumption) (by omega) (by omega) ?_
      refine z_icmp_ne X dX8_add_43 118 (by decide) (by omega) (by omega) (fun h43 => ?_) (fun h43 => ?_)
      · refine z_aload_n X dX8_add_118 rfl ?_
        refine z_iload_n X dX8_add_119 rfl ?_
        refine z_iload_n X dX8_add_120 rfl ?_
        refine z_callVi X (As := [_, _]) dX8_add_121 m_X8_order i_X8_order l_X8_74 (c_X8_order (zg E) hA rfl rfl (by omega) (by omega) hv hw) (by first | assumption | exact zbigA.o (by assumption)) rfl rfl rfl (Nat.le_of_ble_eq_true rfl) ⟨Nat.le_of_ble_eq_true rfl, Nat.le_of_ble_eq_true rfl⟩ ⟨Nat.le_of_ble_eq_true rfl, Nat.le_of_ble_eq_true rfl⟩ ⟨rfl, rfl⟩ (fun r1 m1 hm => ?_)
        obtain ⟨rfl, hr1, hr2⟩ := hm
        refine z_if_lt X dX8_add_124 136 (by decide) (by omega) (fun h124 => ?_) (fun h124 => ?_)
        · refine z_aload_n X dX8_add_136 rfl ?_
          refine z_iload_n X dX8_add_137 rfl ?_
          refine z_bipush X dX8_add_138 (by decide) ?_
          refine z_callVv X (As := [_, _]) dX8_add_140 m_X8_copy i_X8_copy l_X8_81 (c_X8_copy (zg E) (b := 59) hA rfl rfl (by omega) (by omega) (by omega) hw) (by first | assumption | exact zbigA.o (by assumption)) rfl rfl rfl (Nat.le_of_ble_eq_true rfl) ⟨Nat.le_of_ble_eq_true rfl, Nat.le_of_ble_eq_true rfl⟩ ⟨Nat.le_of_ble_eq_true rfl, Nat.le_of_ble_eq_true rfl⟩ ⟨rfl, rfl⟩ (fun m2 hm2 => ?_)
          obtain ⟨q1, q2⟩ := hm2
          refine z_aload_n X dX8_add_143 rfl ?_
          refine z_bipush X dX8_add_144 (by decide) ?_
          refine z_iload_n X dX8_add_146 rfl ?_
          refine z_callVv X (As := [_, _]) dX8_add_147 m_X8_lose i_X8_lose l_X8_78 (c_X8_lose (zg E) (u := if w < 0 then -(u.natAbs : Int) else (u.natAbs : Int)) (s := 59) hA rfl rfl (by omega) (by omega) (by omega) q1 (hv.k q2 (by omega)) (by split <;> omega) (by split <;> omega)) (by first | assumption | exact zbigA.o (by assumption)) rfl rfl rfl (Nat.le_of_ble_eq_true rfl) ⟨Nat.le_of_ble_eq_true rfl, Nat.le_of_ble_eq_true rfl⟩ ⟨Nat.le_of_ble_eq_true rfl, Nat.le_of_ble_eq_true rfl⟩ ⟨rfl, rfl⟩ (fun m3 hm3 => ?_)
          obtain ⟨q3, q4⟩ := hm3
          refine z_aload_n X dX8_add_150 rfl ?_
          refine z_bipush X dX8_add_151 (by decide) ?_
          refine z_iload_n X dX8_add_153 rfl ?_
          refine z_callVv X (As := [_, _]) dX8_add_154 m_X8_copy i_X8_copy l_X8_81 (c_X8_copy (zg E) (a := 59) hA rfl rfl (by omega) (by omega) (by omega) q3) (by first | assumption | exact zbigA.o (by assumption)) rfl rfl rfl (Nat.le_of_ble_eq_true rfl) ⟨Nat.le_of_ble_eq_true rfl, Nat.le_of_ble_eq_true rfl⟩ ⟨Nat.le_of_ble_eq_true rfl, Nat.le_of_ble_eq_true rfl⟩ ⟨rfl, rfl⟩ (fun m4 hm4 => ?_)
          obtain ⟨⟨n', ⟨n1, n2⟩, n3, n4, n5⟩, q6⟩ := hm4
          have hun : (u.natAbs : Int) = zsum 4294967296 (zwd m4 q s) n' := by rw [← n4]; split <;> omega
          have uz : n' ≠ 0 := fun h => by rw [h, zsum_0] at hun; omega
          have fin : ∀ (x : Int), ((x = 0 ∧ 0 ≤ u) ∨ (x = 1 ∧ u < 0)) → zsl (zms m4 (q + 3) s x) q s u ∧ zsP q (fun x => x = s ∨ x = 59) m (zms m4 (q + 3) s x) := fun x a4 => by
            have e4 : ∀ i, zwd (zms m4 (q + 3) s x) q s i = zwd m4 q s i := fun i => by unfold zwd; rw [zms_nq _ _ _ _ _ (by omega)]
            refine ⟨⟨n', ⟨by rw [zms_nq _ _ _ _ _ (by omega)]; exact n1, n2⟩, fun h => by rw [e4]; exact n3 h, hun.trans (zsum_congr (fun i _ => (e4 i).symm)), by rw [zms_same]; exact a4⟩, ?_⟩
            exact ((q2.tt q4 (fun _ h => Or.inr h) (fun _ h => Or.inr h)).tt q6 (fun _ h => h) (fun _ h => Or.inl h)).w3 (Or.inl rfl)
          refine z_aload_n X dX8_add_157 rfl ?_
          refine z_getR X dX8_add_158 f_X8_17 rfl (by first | assumption | exact zbigA.o (by assumption)) (by assumption) ?_
          refine z_iload_n X dX8_add_161 rfl ?_
          refine z_iload X dX8_add_162 rfl ?_
          refine z_if_eq X dX8_add_164 180 (by decide) (by omega) (fun h164 => ?_) (fun h164 => ?_)
          · refine z_iconst X dX8_add_180 ?_
            refine z_bast X (s) dX8_add_181 (by omega) (by first | exact Or.inl rfl | exact Or.inr rfl | omega) (by assumption) (by omega) (by omega) ?_
            skip
            refine z_return (st := []) X rfl hQ dX8_add_182 ⟨rfl, rfl, ?_⟩
            first
            | exact ⟨hm2.1, hm2.2.mono (fun _ h => Or.inl h)⟩
            | exact fin _ (by omega)
            | exact fin _ _ (funext (fun j => zms_nq _ _ _ _ _ (by omega))) (funext (fun j => zms_nq _ _ _ _ _ (by omega))) (zms_same _ _ _ _) (by omega) (n6.w3 rfl)
            | exact fin _ _ (funext (fun j => (zms_nq _ _ _ _ _ (by omega)).trans (zms_nq _ _ _ _ _ (by omega)))) (funext (fun j => (zms_nq _ _ _ _ _ (by omega)).trans (zms_nq _ _ _ _ _ (by omega)))) (zms_same _ _ _ _) (by omega) ((n6.w3 rfl).w3 rfl)
            | (exfalso; omega)
          · refine z_aload_n X dX8_add_167 rfl ?_
            refine z_getR X dX8_add_168 f_X8_14 rfl (by first | assumption | exact zbigA.o (by assumption)) (by assumption) ?_
            refine z_iload_n X dX8_add_171 rfl ?_
            refine z_iald X (s) dX8_add_172 (by omega) (by assumption) (by omega) (by omega) ?_
            refine z_if_le X dX8_add_173 180 (by decide) (by omega) (fun h173 => ?_) (fun h173 => ?_)
            · refine z_iconst X dX8_add_180 ?_
              refine z_bast X (s) dX8_add_181 (by omega) (by first | exact Or.inl rfl | exact Or.inr rfl | omega) (by assumption) (by omega) (by omega) ?_
              skip
              refine z_return (st := []) X rfl hQ dX8_add_182 ⟨rfl, rfl, ?_⟩
              first
              | exact ⟨hm2.1, hm2.2.mono (fun _ h => Or.inl h)⟩
              | exact fin _ (by omega)
              | exact fin _ _ (funext (fun j => zms_nq _ _ _ _ _ (by omega))) (funext (fun j => zms_nq _ _ _ _ _ (by omega))) (zms_same _ _ _ _) (by omega) (n6.w3 rfl)
              | exact fin _ _ (funext (fun j => (zms_nq _ _ _ _ _ (by omega)).trans (zms_nq _ _ _ _ _ (by omega)))) (funext (fun j => (zms_nq _ _ _ _ _ (by omega)).trans (zms_nq _ _ _ _ _ (by omega)))) (zms_same _ _ _ _) (by omega) ((n6.w3 rfl).w3 rfl)
              | (exfalso; omega)
            · refine z_iconst X dX8_add_176 ?_
              refine z_goto X dX8_add_177 181 (by decide) ?_
              refine z_bast X (s) dX8_add_181 (by omega) (by first | exact Or.inl rfl | exact Or.inr rfl | omega) (by assumption) (by omega) (by omega) ?_
              skip
              refine z_return (st := []) X rfl hQ dX8_add_182 ⟨rfl, rfl, ?_⟩
              first
              | exact ⟨hm2.1, hm2.2.mono (fun _ h => Or.inl h)⟩
              | exact fin _ (by omega)
              | exact fin _ _ (funext (fun j => zms_nq _ _ _ _ _ (by omega))) (funext (fun j => zms_nq _ _ _ _ _ (by omega))) (zms_same _ _ _ _) (by omega) (n6.w3 rfl)
              | exact fin _ _ (funext (fun j => (zms_nq _ _ _ _ _ (by omega)).trans (zms_nq _ _ _ _ _ (by omega)))) (funext (fun j => (zms_nq _ _ _ _ _ (by omega)).trans (zms_nq _ _ _ _ _ (by omega)))) (zms_same _ _ _ _) (by omega) ((n6.w3 rfl).w3 rfl)
              | (exfalso; omega)
        · refine z_aload_n X dX8_add_127 rfl ?_
          refine z_iload_n X dX8_add_128 rfl ?_
          refine z_iload_n X dX8_add_129 rfl ?_
          refine z_callVv X (As := [_, _]) dX8_add_130 m_X8_lose i_X8_lose l_X8_78 (c_X8_lose (zg E) (u := u) hA rfl rfl (by omega) (by omega) hne hv hw (by omega) (by omega)) (by first | assumption | exact zbigA.o (by assumption)) rfl rfl rfl (Nat.le_of_ble_eq_true rfl) ⟨Nat.le_of_ble_eq_true rfl, Nat.le_of_ble_eq_true rfl⟩ ⟨Nat.le_of_ble_eq_true rfl, Nat.le_of_ble_eq_true rfl⟩ ⟨rfl, rfl⟩ (fun m2 hm2 => ?_)
          refine z_goto X dX8_add_133 182 (by decide) ?_
          skip
          refine z_return (st := []) X rfl hQ dX8_add_182 ⟨rfl, rfl, ?_⟩
          first
          | exact ⟨hm2.1, hm2.2.mono (fun _ h => Or.inl h)⟩
          | exact fin _ (by omega)
          | exact fin _ _ (funext (fun j => zms_nq _ _ _ _ _ (by omega))) (funext (fun j => zms_nq _ _ _ _ _ (by omega))) (zms_same _ _ _ _) (by omega) (n6.w3 rfl)
          | exact fin _ _ (funext (fun j => (zms_nq _ _ _ _ _ (by omega)).trans (zms_nq _ _ _ _ _ (by omega)))) (funext (fun j => (zms_nq _ _ _ _ _ (by omega)).trans (zms_nq _ _ _ _ _ (by omega)))) (zms_same _ _ _ _) (by omega) ((n6.w3 rfl).w3 rfl)
          | (exfalso; omega)
      · refine z_aload_n X dX8_add_46 rfl ?_
        refine z_iload_n X dX8_add_47 rfl ?_
        refine z_iload_n X dX8_add_48 rfl ?_
        refine z_callVv X (As := [_, _]) dX8_add_49 m_X8_gain i_X8_gain l_X8_70 (c_X8_gain (zg E) hA rfl rfl (by omega) (by omega) hne hn hn2 tn hk hk2 tk hfit) (by first | assumption | exact zbigA.o (by assumption)) rfl rfl rfl (Nat.le_of_ble_eq_true rfl) ⟨Nat.le_of_ble_eq_true rfl, Nat.le_of_ble_eq_true rfl⟩ ⟨Nat.le_of_ble_eq_true rfl, Nat.le_of_ble_eq_true rfl⟩ ⟨rfl, rfl⟩ (fun m1 hm => ?_)
        obtain ⟨⟨n', ⟨n1, n2⟩, n3, n4⟩, n5, n6⟩ := hm
        have hun : (u.natAbs : Int) = zsum 4294967296 (zwd m1 q s) n' := by omega
        have uz : n' = 0 ↔ u = 0 := by
          constructor
          · intro h; rw [h, zsum_0] at hun; omega
          · intro h
            rcases Nat.eq_zero_or_pos n' with g | g
            · exact g
            · obtain ⟨d, rfl⟩ : ∃ d, n' = d + 1 := ⟨n' - 1, by omega⟩
              have g1 := zsum_top (b := 4294967296) (n := d) (by omega) (fun i _ => (zwd_bd m1 q s i).1) (n3 (by omega))
              have g2 := zpow_pos (b := 4294967296) (by omega) d
              omega
        have fin : ∀ (m2 : zM) (x : Int), m2 (q + 1) = m1 (q + 1) → m2 (q + 2) = m1 (q + 2) → m2 (q + 3) s = x → ((x = 0 ∧ 0 ≤ u) ∨ (x = 1 ∧ u < 0)) → zsP q (fun x => x = s) m m2 → zsl m2 q s u ∧ zsP q (fun x => x = s ∨ x = 59) m m2 := fun m2 x a1 a2 a3 a4 a5 => by
          have e4 : ∀ i, zwd m2 q s i = zwd m1 q s i := fun i => by unfold zwd; rw [a1]
          exact ⟨⟨n', ⟨by rw [a2]; exact n1, n2⟩, fun h => by rw [e4]; exact n3 h, hun.trans (zsum_congr (fun i _ => (e4 i).symm)), by rw [a3]; exact a4⟩, a5.mono (fun _ h => Or.inl h)⟩
        have k1 : ∀ x : Int, zms m1 (q + 3) s x (q + 2) b = (k : Int) := fun x => by rw [zms_nq _ _ _ _ _ (by omega), (n6.2 b hne).1, hk]
        have k2 : ∀ x : Int, zms m1 (q + 3) s x (q + 2) s = (n' : Int) := fun x => by rw [zms_nq _ _ _ _ _ (by omega), n1]
        refine z_aload_n X dX8_add_52 rfl ?_
        refine z_getR X dX8_add_53 f_X8_17 rfl (by first | assumption | exact zbigA.o (by assumption)) (by assumption) ?_
        refine z_iload_n X dX8_add_56 rfl ?_
        refine z_aload_n X dX8_add_57 rfl ?_
        refine z_getR X dX8_add_58 f_X8_14 rfl (by first | assumption | exact zbigA.o (by assumption)) (by assumption) ?_
        refine z_iload_n X dX8_add_61 rfl ?_
        refine z_iald X (s) dX8_add_62 (by omega) (by assumption) (by omega) (by omega) ?_
        refine z_if_le X dX8_add_63 75 (by decide) (by omega) (fun h63 => ?_) (fun h63 => ?_)
        · refine z_iconst X dX8_add_75 ?_
          refine z_bast X (s) dX8_add_76 (by omega) (by first | exact Or.inl rfl | exact Or.inr rfl | omega) (by assumption) (by omega) (by omega) ?_
          refine z_aload_n X dX8_add_77 rfl ?_
          refine z_getR X dX8_add_78 f_X8_14 rfl (by first | assumption | exact zbigA.o (by assumption)) (by assumption) ?_
          refine z_iload_n X dX8_add_81 rfl ?_
          skip
          refine z_iald X (b) dX8_add_82 (by omega) (by assumption) (by omega) (by omega) ?_
          rw [k1]
          refine z_if_ne X dX8_add_83 182 (by decide) (by omega) (fun h83 => ?_) (fun h83 => ?_)
          · skip
            refine z_return (st := []) X rfl hQ dX8_add_182 ⟨rfl, rfl, ?_⟩
            first
            | exact ⟨hm2.1, hm2.2.mono (fun _ h => Or.inl h)⟩
            | exact fin _ (by omega)
            | exact fin _ _ (funext (fun j => zms_nq _ _ _ _ _ (by omega))) (funext (fun j => zms_nq _ _ _ _ _ (by omega))) (zms_same _ _ _ _) (by omega) (n6.w3 rfl)
            | exact fin _ _ (funext (fun j => (zms_nq _ _ _ _ _ (by omega)).trans (zms_nq _ _ _ _ _ (by omega)))) (funext (fun j => (zms_nq _ _ _ _ _ (by omega)).trans (zms_nq _ _ _ _ _ (by omega)))) (zms_same _ _ _ _) (by omega) ((n6.w3 rfl).w3 rfl)
            | (exfalso; omega)
          · refine z_aload_n X dX8_add_86 rfl ?_
            refine z_getR X dX8_add_87 f_X8_17 rfl (by first | assumption | exact zbigA.o (by assumption)) (by assumption) ?_
            refine z_iload_n X dX8_add_90 rfl ?_
            refine z_aload_n X dX8_add_91 rfl ?_
            refine z_getR X dX8_add_92 f_X8_17 rfl (by first | assumption | exact zbigA.o (by assumption)) (by assumption) ?_
            refine z_iload_n X dX8_add_95 rfl ?_
            refine z_bald X (s) dX8_add_96 (by omega) (by assumption) (by omega) (by omega) ?_
            rw [zms_same]
            refine z_if_eq X dX8_add_97 113 (by decide) (by omega) (fun h97 => ?_) (fun h97 => ?_)
            · refine z_iconst X dX8_add_113 ?_
              refine z_bast X (s) dX8_add_114 (by omega) (by first | exact Or.inl rfl | exact Or.inr rfl | omega) (by assumption) (by omega) (by omega) ?_
              refine z_goto X dX8_add_115 182 (by decide) ?_
              skip
              refine z_return (st := []) X rfl hQ dX8_add_182 ⟨rfl, rfl, ?_⟩
              first
              | exact ⟨hm2.1, hm2.2.mono (fun _ h => Or.inl h)⟩
              | exact fin _ (by omega)
              | exact fin _ _ (funext (fun j => zms_nq _ _ _ _ _ (by omega))) (funext (fun j => zms_nq _ _ _ _ _ (by omega))) (zms_same _ _ _ _) (by omega) (n6.w3 rfl)
              | exact fin _ _ (funext (fun j => (zms_nq _ _ _ _ _ (by omega)).trans (zms_nq _ _ _ _ _ (by omega)))) (funext (fun j => (zms_nq _ _ _ _ _ (by omega)).trans (zms_nq _ _ _ _ _ (by omega)))) (zms_same _ _ _ _) (by omega) ((n6.w3 rfl).w3 rfl)
              | (exfalso; omega)
            · refine z_aload_n X dX8_add_100 rfl ?_
              refine z_getR X dX8_add_101 f_X8_14 rfl (by first | assumption | exact zbigA.o (by assumption)) (by assumption) ?_
              refine z_iload_n X dX8_add_104 rfl ?_
              refine z_iald X (s) dX8_add_105 (by omega) (by assumption) (by omega) (by omega) ?_
              rw [k2]
              refine z_if_le X dX8_add_106 113 (by decide) (by omega) (fun h106 => ?_) (fun h106 => ?_)
              · refine z_iconst X dX8_add_113 ?_
                refine z_bast X (s) dX8_add_114 (by omega) (by first | exact Or.inl rfl | exact Or.inr rfl | omega) (by assumption) (by omega) (by omega) ?_
                refine z_goto X dX8_add_115 182 (by decide) ?_
                skip
                refine z_return (st := []) X rfl hQ dX8_add_182 ⟨rfl, rfl, ?_⟩
                first
                | exact ⟨hm2.1, hm2.2.mono (fun _ h => Or.inl h)⟩
                | exact fin _ (by omega)
                | exact fin _ _ (funext (fun j => zms_nq _ _ _ _ _ (by omega))) (funext (fun j => zms_nq _ _ _ _ _ (by omega))) (zms_same _ _ _ _) (by omega) (n6.w3 rfl)
                | exact fin _ _ (funext (fun j => (zms_nq _ _ _ _ _ (by omega)).trans (zms_nq _ _ _ _ _ (by omega)))) (funext (fun j => (zms_nq _ _ _ _ _ (by omega)).trans (zms_nq _ _ _ _ _ (by omega)))) (zms_same _ _ _ _) (by omega) ((n6.w3 rfl).w3 rfl)
                | (exfalso; omega)
              · refine z_iconst X dX8_add_109 ?_
                refine z_goto X dX8_add_110 114 (by decide) ?_
                refine z_bast X (s) dX8_add_114 (by omega) (by first | exact Or.inl rfl | exact Or.inr rfl | omega) (by assumption) (by omega) (by omega) ?_
                refine z_goto X dX8_add_115 182 (by decide) ?_
                skip
                refine z_return (st := []) X rfl hQ dX8_add_182 ⟨rfl, rfl, ?_⟩
                first
                | exact ⟨hm2.1, hm2.2.mono (fun _ h => Or.inl h)⟩
                | exact fin _ (by omega)
                | exact fin _ _ (funext (fun j => zms_nq _ _ _ _ _ (by omega))) (funext (fun j => zms_nq _ _ _ _ _ (by omega))) (zms_same _ _ _ _) (by omega) (n6.w3 rfl)
                | exact fin _ _ (funext (fun j => (zms_nq _ _ _ _ _ (by omega)).trans (zms_nq _ _ _ _ _ (by omega)))) (funext (fun j => (zms_nq _ _ _ _ _ (by omega)).trans (zms_nq _ _ _ _ _ (by omega)))) (zms_same _ _ _ _) (by omega) ((n6.w3 rfl).w3 rfl)
                | (exfalso; omega)
        · refine z_iload X dX8_add_66 rfl ?_
          refine z_if_eq X dX8_add_68 75 (by decide) (by omega) (fun h68 => ?_) (fun h68 => ?_)
          · refine z_iconst X dX8_add_75 ?_
            refine z_bast X (s) dX8_add_76 (by omega) (by first | exact Or.inl rfl | exact Or.inr rfl | omega) (by assumption) (by omega) (by omega) ?_
            refine z_aload_n X dX8_add_77 rfl ?_
            refine z_getR X dX8_add_78 f_X8_14 rfl (by first | assumption | exact zbigA.o (by assumption)) (by assumption) ?_
            refine z_iload_n X dX8_add_81 rfl ?_
            skip
            refine z_iald X (b) dX8_add_82 (by omega) (by assumption) (by omega) (by omega) ?_
            rw [k1]
            refine z_if_ne X dX8_add_83 182 (by decide) (by omega) (fun h83 => ?_) (fun h83 => ?_)
            · skip
              refine z_return (st := []) X rfl hQ dX8_add_182 ⟨rfl, rfl, ?_⟩
              first
              | exact ⟨hm2.1, hm2.2.mono (fun _ h => Or.inl h)⟩
              | exact fin _ (by omega)
              | exact fin _ _ (funext (fun j => zms_nq _ _ _ _ _ (by omega))) (funext (fun j => zms_nq _ _ _ _ _ (by omega))) (zms_same _ _ _ _) (by omega) (n6.w3 rfl)
              | exact fin _ _ (funext (fun j => (zms_nq _ _ _ _ _ (by omega)).trans (zms_nq _ _ _ _ _ (by omega)))) (funext (fun j => (zms_nq _ _ _ _ _ (by omega)).trans (zms_nq _ _ _ _ _ (by omega)))) (zms_same _ _ _ _) (by omega) ((n6.w3 rfl).w3 rfl)
              | (exfalso; omega)
            · refine z_aload_n X dX8_add_86 rfl ?_
              refine z_getR X dX8_add_87 f_X8_17 rfl (by first | assumption | exact zbigA.o (by assumption)) (by assumption) ?_
              refine z_iload_n X dX8_add_90 rfl ?_
              refine z_aload_n X dX8_add_91 rfl ?_
              refine z_getR X dX8_add_92 f_X8_17 rfl (by first | assumption | exact zbigA.o (by assumption)) (by assumption) ?_
              refine z_iload_n X dX8_add_95 rfl ?_
              refine z_bald X (s) dX8_add_96 (by omega) (by assumption) (by omega) (by omega) ?_
              rw [zms_same]
              refine z_if_eq X dX8_add_97 113 (by decide) (by omega) (fun h97 => ?_) (fun h97 => ?_)
              · refine z_iconst X dX8_add_113 ?_
                refine z_bast X (s) dX8_add_114 (by omega) (by first | exact Or.inl rfl | exact Or.inr rfl | omega) (by assumption) (by omega) (by omega) ?_
                refine z_goto X dX8_add_115 182 (by decide) ?_
                skip
                refine z_return (st := []) X rfl hQ dX8_add_182 ⟨rfl, rfl, ?_⟩
                first
                | exact ⟨hm2.1, hm2.2.mono (fun _ h => Or.inl h)⟩
                | exact fin _ (by omega)
                | exact fin _ _ (funext (fun j => zms_nq _ _ _ _ _ (by omega))) (funext (fun j => zms_nq _ _ _ _ _ (by omega))) (zms_same _ _ _ _) (by omega) (n6.w3 rfl)
                | exact fin _ _ (funext (fun j => (zms_nq _ _ _ _ _ (by omega)).trans (zms_nq _ _ _ _ _ (by omega)))) (funext (fun j => (zms_nq _ _ _ _ _ (by omega)).trans (zms_nq _ _ _ _ _ (by omega)))) (zms_same _ _ _ _) (by omega) ((n6.w3 rfl).w3 rfl)
                | (exfalso; omega)
              · refine z_aload_n X dX8_add_100 rfl ?_
                refine z_getR X dX8_add_101 f_X8_14 rfl (by first | assumption | exact zbigA.o (by assumption)) (by assumption) ?_
                refine z_iload_n X dX8_add_104 rfl ?_
                refine z_iald X (s) dX8_add_105 (by omega) (by assumption) (by omega) (by omega) ?_
                rw [k2]
                refine z_if_le X dX8_add_106 113 (by decide) (by omega) (fun h106 => ?_) (fun h106 => ?_)
                · refine z_iconst X dX8_add_113 ?_
                  refine z_bast X (s) dX8_add_114 (by omega) (by first | exact Or.inl rfl | exact Or.inr rfl | omega) (by assumption) (by omega) (by omega) ?_
                  refine z_goto X dX8_add_115 182 (by decide) ?_
                  skip
                  refine z_return (st := []) X rfl hQ dX8_add_182 ⟨rfl, rfl, ?_⟩
                  first
                  | exact ⟨hm2.1, hm2.2.mono (fun _ h => Or.inl h)⟩
                  | exact fin _ (by omega)
                  | exact fin _ _ (funext (fun j => zms_nq _ _ _ _ _ (by omega))) (funext (fun j => zms_nq _ _ _ _ _ (by omega))) (zms_same _ _ _ _) (by omega) (n6.w3 rfl)
                  | exact fin _ _ (funext (fun j => (zms_nq _ _ _ _ _ (by omega)).trans (zms_nq _ _ _ _ _ (by omega)))) (funext (fun j => (zms_nq _ _ _ _ _ (by omega)).trans (zms_nq _ _ _ _ _ (by omega)))) (zms_same _ _ _ _) (by omega) ((n6.w3 rfl).w3 rfl)
                  | (exfalso; omega)
                · refine z_iconst X dX8_add_109 ?_
                  refine z_goto X dX8_add_110 114 (by decide) ?_
                  refine z_bast X (s) dX8_add_114 (by omega) (by first | exact Or.inl rfl | exact Or.inr rfl | omega) (by assumption) (by omega) (by omega) ?_
                  refine z_goto X dX8_add_115 182 (by decide) ?_
                  skip
                  refine z_return (st := []) X rfl hQ dX8_add_182 ⟨rfl, rfl, ?_⟩
                  first
                  | exact ⟨hm2.1, hm2.2.mono (fun _ h => Or.inl h)⟩
                  | exact fin _ (by omega)
                  | exact fin _ _ (funext (fun j => zms_nq _ _ _ _ _ (by omega))) (funext (fun j => zms_nq _ _ _ _ _ (by omega))) (zms_same _ _ _ _) (by omega) (n6.w3 rfl)
                  | exact fin _ _ (funext (fun j => (zms_nq _ _ _ _ _ (by omega)).trans (zms_nq _ _ _ _ _ (by omega)))) (funext (fun j => (zms_nq _ _ _ _ _ (by omega)).trans (zms_nq _ _ _ _ _ (by omega)))) (zms_same _ _ _ _) (by omega) ((n6.w3 rfl).w3 rfl)
                  | (exfalso; omega)
          · refine z_iconst X dX8_add_71 ?_
            refine z_goto X dX8_add_72 76 (by decide) ?_
            refine z_bast X (s) dX8_add_76 (by omega) (by first | exact Or.inl rfl | exact Or.inr rfl | omega) (by assumption) (by omega) (by omega) ?_
            refine z_aload_n X dX8_add_77 rfl ?_
            refine z_getR X dX8_add_78 f_X8_14 rfl (by first | assumption | exact zbigA.o (by assumption)) (by assumption) ?_
            refine z_iload_n X dX8_add_81 rfl ?_
            skip
            refine z_iald X (b) dX8_add_82 (by omega) (by assumption) (by omega) (by omega) ?_
            rw [k1]
            refine z_if_ne X dX8_add_83 182 (by decide) (by omega) (fun h83 => ?_) (fun h83 => ?_)
            · skip
              refine z_return (st := []) X rfl hQ dX8_add_182 ⟨rfl, rfl, ?_⟩
              first
              | exact ⟨hm2.1, hm2.2.mono (fun _ h => Or.inl h)⟩
              | exact fin _ (by omega)
              | exact fin _ _ (funext (fun j => zms_nq _ _ _ _ _ (by omega))) (funext (fun j => zms_nq _ _ _ _ _ (by omega))) (zms_same _ _ _ _) (by omega) (n6.w3 rfl)
              | exact fin _ _ (funext (fun j => (zms_nq _ _ _ _ _ (by omega)).trans (zms_nq _ _ _ _ _ (by omega)))) (funext (fun j => (zms_nq _ _ _ _ _ (by omega)).trans (zms_nq _ _ _ _ _ (by omega)))) (zms_same _ _ _ _) (by omega) ((n6.w3 rfl).w3 rfl)
              | (exfalso; omega)
            · refine z_aload_n X dX8_add_86 rfl ?_
              refine z_getR X dX8_add_87 f_X8_17 rfl (by first | assumption | exact zbigA.o (by assumption)) (by assumption) ?_
              refine z_iload_n X dX8_add_90 rfl ?_
              refine z_aload_n X dX8_add_91 rfl ?_
              refine z_getR X dX8_add_92 f_X8_17 rfl (by first | assumption | exact zbigA.o (by assumption)) (by assumption) ?_
              refine z_iload_n X dX8_add_95 rfl ?_
              refine z_bald X (s) dX8_add_96 (by omega) (by assumption) (by omega) (by omega) ?_
              rw [zms_same]
              refine z_if_eq X dX8_add_97 113 (by decide) (by omega) (fun h97 => ?_) (fun h97 => ?_)
              · refine z_iconst X dX8_add_113 ?_
                refine z_bast X (s) dX8_add_114 (by omega) (by first | exact Or.inl rfl | exact Or.inr rfl | omega) (by assumption) (by omega) (by omega) ?_
                refine z_goto X dX8_add_115 182 (by decide) ?_
                skip
                refine z_return (st := []) X rfl hQ dX8_add_182 ⟨rfl, rfl, ?_⟩
                first
                | exact ⟨hm2.1, hm2.2.mono (fun _ h => Or.inl h)⟩
                | exact fin _ (by omega)
                | exact fin _ _ (funext (fun j => zms_nq _ _ _ _ _ (by omega))) (funext (fun j => zms_nq _ _ _ _ _ (by omega))) (zms_same _ _ _ _) (by omega) (n6.w3 rfl)
                | exact fin _ _ (funext (fun j => (zms_nq _ _ _ _ _ (by omega)).trans (zms_nq _ _ _ _ _ (by omega)))) (funext (fun j => (zms_nq _ _ _ _ _ (by omega)).trans (zms_nq _ _ _ _ _ (by omega)))) (zms_same _ _ _ _) (by omega) ((n6.w3 rfl).w3 rfl)
                | (exfalso; omega)
              · refine z_aload_n X dX8_add_100 rfl ?_
                refine z_getR X dX8_add_101 f_X8_14 rfl (by first | assumption | exact zbigA.o (by assumption)) (by assumption) ?_
                refine z_iload_n X dX8_add_104 rfl ?_
                refine z_iald X (s) dX8_add_105 (by omega) (by assumption) (by omega) (by omega) ?_
                rw [k2]
                refine z_if_le X dX8_add_106 113 (by decide) (by omega) (fun h106 => ?_) (fun h106 => ?_)
                · refine z_iconst X dX8_add_113 ?_
                  refine z_bast X (s) dX8_add_114 (by omega) (by first | exact Or.inl rfl | exact Or.inr rfl | omega) (by assumption) (by omega) (by omega) ?_
                  refine z_goto X dX8_add_115 182 (by decide) ?_
                  skip
                  refine z_return (st := []) X rfl hQ dX8_add_182 ⟨rfl, rfl, ?_⟩
                  first
                  | exact ⟨hm2.1, hm2.2.mono (fun _ h => Or.inl h)⟩
                  | exact fin _ (by omega)
                  | exact fin _ _ (funext (fun j => zms_nq _ _ _ _ _ (by omega))) (funext (fun j => zms_nq _ _ _ _ _ (by omega))) (zms_same _ _ _ _) (by omega) (n6.w3 rfl)
                  | exact fin _ _ (funext (fun j => (zms_nq _ _ _ _ _ (by omega)).trans (zms_nq _ _ _ _ _ (by omega)))) (funext (fun j => (zms_nq _ _ _ _ _ (by omega)).trans (zms_nq _ _ _ _ _ (by omega)))) (zms_same _ _ _ _) (by omega) ((n6.w3 rfl).w3 rfl)
                  | (exfalso; omega)
                · refine z_iconst X dX8_add_109 ?_
                  refine z_goto X dX8_add_110 114 (by decide) ?_
                  refine z_bast X (s) dX8_add_114 (by omega) (by first | exact Or.inl rfl | exact Or.inr rfl | omega) (by assumption) (by omega) (by omega) ?_
                  refine z_goto X dX8_add_115 182 (by decide) ?_
                  skip
                  refine z_return (st := []) X rfl hQ dX8_add_182 ⟨rfl, rfl, ?_⟩
                  first
                  | exact ⟨hm2.1, hm2.2.mono (fun _ h => Or.inl h)⟩
                  | exact fin _ (by omega)
                  | exact fin _ _ (funext (fun j => zms_nq _ _ _ _ _ (by omega))) (funext (fun j => zms_nq _ _ _ _ _ (by omega))) (zms_same _ _ _ _) (by omega) (n6.w3 rfl)
                  | exact fin _ _ (funext (fun j => (zms_nq _ _ _ _ _ (by omega)).trans (zms_nq _ _ _ _ _ (by omega)))) (funext (fun j => (zms_nq _ _ _ _ _ (by omega)).trans (zms_nq _ _ _ _ _ (by omega)))) (zms_same _ _ _ _) (by omega) ((n6.w3 rfl).w3 rfl)
                  | (exfalso; omega)
  refine z_aload_n X dX8_add_0 rfl ?_
  refine z_getR X dX8_add_1 f_X8_17 rfl (by first | assumption | exact zbigA.o (by assumption)) (by assumption) ?_
  refine z_iload_n X dX8_add_4 rfl ?_
  refine z_bald X (b) dX8_add_5 (by omega) (by assumption) (by omega) (by omega) ?_
  refine z_iload_n X dX8_add_6 rfl ?_
  refine z_icmp_eq X dX8_add_7 23 (by decide) (by omega) (by omega) (fun h7 => ?_) (fun h7 => ?_)
  · refine z_iconst X dX8_add_23 ?_
    refine z_istore X dX8_add_24 (fun y => [_, _, _, _, some (vi y)]) (by decide) (fun _ => rfl) (fun sg hsg => ?_)
    exact tail sg (by omega)
  · refine z_aload_n X dX8_add_10 rfl ?_
    refine z_getR X dX8_add_11 f_X8_14 rfl (by first | assumption | exact zbigA.o (by assumption)) (by assumption) ?_
    refine z_iload_n X dX8_add_14 rfl ?_
    refine z_iald X (b) dX8_add_15 (by omega) (by assumption) (by omega) (by omega) ?_
    refine z_if_le X dX8_add_16 23 (by decide) (by omega) (fun h16 => ?_) (fun h16 => ?_)
    · refine z_iconst X dX8_add_23 ?_
      refine z_istore X dX8_add_24 (fun y => [_, _, _, _, some (vi y)]) (by decide) (fun _ => rfl) (fun sg hsg => ?_)
      exact tail sg (by omega)
    · refine z_iconst X dX8_add_19 ?_
      refine z_goto X dX8_add_20 24 (by decide) ?_
      refine z_istore X dX8_add_24 (fun y => [_, _, _, _, some (vi y)]) (by decide) (fun _ => rfl) (fun sg hsg => ?_)
      exact tail sg (by omega)

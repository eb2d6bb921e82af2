/-! The model: up (by 62), half -/
def zupg (f : Nat → Int) (k : Nat) : Int := if k = 0 then 0 else f (k - 1) / 4
def zupv (f : Nat → Int) (k : Nat) : Int := if k = 0 then 0 else (f (k - 1) * 1073741824 + zupg f (k - 1)) % 4294967296
theorem zup_step {S Z g g' v f p : Int} (h1 : Z + g * (p * 4294967296) = S * 4611686018427387904) (h2 : v + g' * 4294967296 = f * 1073741824 + g) : Z + v * (p * 4294967296) + g' * (p * 4294967296 * 4294967296) = (S + f * p) * 4611686018427387904 := by grind
theorem zup_sum {f : Nat → Int} (hf : ∀ i, 0 ≤ f i ∧ f i < 4294967296) : ∀ k, zsum 4294967296 (zupv f) (k + 1) + zupg f k * 4294967296 ^ (k + 1) = zsum 4294967296 f k * 4611686018427387904
  | 0 => by simp [zsum, zupv, zupg]
  | k + 1 => by
    have ih := zup_sum hf k
    rw [zsum_s, zsum_s (f := f)]
    rw [Int.pow_succ] at ih
    rw [Int.pow_succ, Int.pow_succ]
    refine zup_step ih ?_
    have h1 := hf k
    have h2 : 0 ≤ zupg f k ∧ zupg f k < 1073741824 := by
      unfold zupg
      split
      · omega
      · have := hf (k - 1); omega
    have e1 : zupv f (k + 1) = (f k * 1073741824 + zupg f k) % 4294967296 := rfl
    have e2 : zupg f (k + 1) = f k / 4 := rfl
    rw [e1, e2]
    omega
theorem zdg_in {f : Nat → Int} (hf : ∀ i, 0 ≤ f i ∧ f i < 4294967296) (n i : Nat) : 0 ≤ zdg f n i ∧ zdg f n i < 4294967296 := by
  unfold zdg
  split
  · exact hf i
  · omega
theorem zl8_up {E : zCx} {rm : Room} {cs : Nat × Nat} {A : zA} (X : zOK E cX8_up RX8 11 none rm) {q s n : Nat} {bt : Int} (hA : zmodA A q) (hs : s < 60) {m0 : zM} (hn : m0 (q + 2) s = (n : Int)) (hn2 : n + 2 ≤ 1200) : ∀ (r : Nat) (m : zM) (l6 l7 l8 l9 l10 : Option Value), r ≤ n + 2 → zsP q (fun z => z = s) m0 m → m (q + 2) s = (n : Int) → m (q + 3) s = m0 (q + 3) s → (∀ j, j < r → m (q + 1) (1200 * s + j) = m0 (q + 1) (1200 * s + j)) → (∀ j, r ≤ j → j < n + 2 → zwd m q s j = zupv (zdg (zwd m0 q s) n) j) →
    (∀ (m' : zM) (l6 l7 l8 l9 l10 : Option Value), zsP q (fun z => z = s) m0 m' → m' (q + 2) s = (n : Int) → m' (q + 3) s = m0 (q + 3) s → (∀ j, j < n + 2 → zwd m' q s j = zupv (zdg (zwd m0 q s) n) j) → zW E cs A m' 158 [some (vr q), some (vi (s : Int)), some (vi bt), some (vi 1), some (vi 30), some (vi (-1)), l6, l7, l8, l9, l10] []) → zW E cs A m 21 [some (vr q), some (vi (s : Int)), some (vi bt), some (vi 1), some (vi 30), some (vi ((r : Int) - 1)), l6, l7, l8, l9, l10] [] := by
  obtain ⟨⟨hO0, f0, f1, f2, f3, f4, f5, f6, f7, f8, f9, f10, f11, f12, f16, f24, f25⟩, ⟨g1, g2, g3⟩, ⟨g4, g5, g6, g7, g8, g9⟩, ⟨g10, g11, g12, g13⟩, g14, g15, g16⟩ := id hA
  intro r
  induction r with
  | zero =>
    intro m l6 l7 l8 l9 l10 hr h1 e1 e2 h3 h4 K
    refine z_iload X dX8_up_21 rfl ?_
    refine z_if_lt X dX8_up_23 158 (by decide) (by omega) (fun h23 => ?_) (fun h23 => ?_)
    · exact K m _ _ _ _ _ h1 e1 e2 (fun j hj => h4 j (by omega) hj)
    · exact absurd h23 (by omega)
  | succ r ih =>
    intro m l6 l7 l8 l9 l10 hr h1 e1 e2 h3 h4 K
    have w1 := zwd_bd m0 q s (r - 1)
    have w2 := zwd_bd m0 q s (r - 2)
    have e3 : m (q + 1) (1200 * s + (r - 1)) % 4294967296 = zwd m0 q s (r - 1) := by rw [h3 _ (by omega)]; rfl
    have e4 : m (q + 1) (1200 * s + (r - 2)) % 4294967296 = zwd m0 q s (r - 2) := by rw [h3 _ (by omega)]; rfl
    refine z_iload X dX8_up_21 rfl ?_
    refine z_if_lt X dX8_up_23 158 (by decide) (by omega) (fun h23 => ?_) (fun h23 => ?_)
    · exact absurd h23 (by omega)
    · refine z_iload X dX8_up_26 rfl ?_
      refine z_iload_n X dX8_up_28 rfl ?_
      refine z_isub X dX8_up_29 ?_
      refine z_istore X dX8_up_30 (fun y => [_, _, _, _, _, _, some (vi y), _, _, _, _]) (by decide) (fun _ => rfl) (fun i hi => ?_)
      refine z_iload X dX8_up_32 rfl ?_
      refine z_if_lt X dX8_up_34 69 (by decide) (by omega) (fun h34 => ?_) (fun h34 => ?_)
      · refine z_lconst X dX8_up_69 0 rfl ?_
        refine z_lstore X dX8_up_70 (fun y => [_, _, _, _, _, _, _, some (vl y), _, _, _]) (by decide) (fun _ => rfl) (fun hg hhg => ?_)
        refine z_iload X dX8_up_72 rfl ?_
        refine z_if_le X dX8_up_74 111 (by decide) (by omega) (fun h74 => ?_) (fun h74 => ?_)
        · refine z_lconst X dX8_up_111 0 rfl ?_
          refine z_lstore X dX8_up_112 (fun y => [_, _, _, _, _, _, _, _, _, some (vl y), _]) (by decide) (fun _ => rfl) (fun lo hlo => ?_)
          refine z_aload_n X dX8_up_114 rfl ?_
          refine z_getR X dX8_up_115 f_X8_8 rfl (by first | assumption | exact zbigA.o (by assumption)) (by assumption) ?_
          refine z_sipush X dX8_up_118 (by decide) ?_
          refine z_iload_n X dX8_up_121 rfl ?_
          refine z_imul X dX8_up_122 ?_
          refine z_iload X dX8_up_123 rfl ?_
          refine z_iadd X dX8_up_125 ?_
          refine z_iload X dX8_up_126 rfl ?_
          refine z_if_ne X dX8_up_128 136 (by decide) (by omega) (fun h128 => ?_) (fun h128 => ?_)
          · have f1 : hg = if r = 0 then 0 else zdg (zwd m0 q s) n (r - 1) := by unfold zdg; (repeat' split) <;> omega
            have f2 : lo = if r ≤ 1 then 0 else zdg (zwd m0 q s) n (r - 2) := by unfold zdg; (repeat' split) <;> omega
            have f3 : 0 ≤ hg ∧ hg < 4294967296 := by omega
            have f4 : 0 ≤ lo ∧ lo < 4294967296 := by omega
            refine z_lload X dX8_up_136 rfl ?_
            refine z_iload X dX8_up_138 rfl ?_
            refine z_lshl X dX8_up_140 (30) (1073741824) rfl (by omega) (by decide) ?_
            refine z_lload X dX8_up_141 rfl ?_
            refine z_bipush X dX8_up_143 (by decide) ?_
            refine z_iload X dX8_up_145 rfl ?_
            refine z_isub X dX8_up_147 ?_
            refine z_lushr X dX8_up_148 (2) (4) (by omega) (by omega) (by decide) (by omega) ?_
            refine z_lor X dX8_up_149 30 hg (by omega) rfl (by omega) (by omega) ?_
            refine z_l2i X dX8_up_150 ?_
            refine z_iast X (1200 * s + r) dX8_up_151 (by omega) (by assumption) (by omega) (by omega) ?_
            refine z_iinc X dX8_up_152 rfl (fun y => [_, _, _, _, _, some (vi y), _, _, _, _, _]) (fun _ => rfl) (fun y hy => ?_)
            obtain rfl : y = (r : Int) - 1 := by omega
            refine z_goto X dX8_up_155 21 (by decide) ?_
            refine ih _ _ _ _ _ _ (by omega) (h1.w1 (i := r) rfl (by omega)) (by rw [zms_nq _ _ _ _ _ (by omega)]; exact e1) (by rw [zms_nq _ _ _ _ _ (by omega)]; exact e2) (fun j hj => by rw [zms_nk _ _ _ _ _ (by omega)]; exact h3 j (by omega)) (fun j hj1 hj2 => ?_) K
            by_cases hj : j = r
            · subst hj
              show zms m (q + 1) (1200 * s + j) _ (q + 1) (1200 * s + j) % 4294967296 = _
              rw [zms_same]
              unfold zupv zupg
              by_cases hj0 : j = 0
              · rw [if_pos hj0] at f1
                rw [if_pos (by omega)] at f2
                rw [if_pos hj0, f1, f2]
                rfl
              · rw [if_neg hj0] at f1
                rw [if_neg hj0, ← f1]
                by_cases hj1 : j ≤ 1
                · rw [if_pos hj1] at f2
                  rw [if_pos (by omega), f2]
                  rfl
                · rw [if_neg hj1] at f2
                  rw [if_neg (by omega), show j - 1 - 1 = j - 2 by omega, ← f2]
            · have : zwd (zms m (q + 1) (1200 * s + r) (hg * 1073741824 + lo / 4)) q s j = zwd m q s j := by unfold zwd; rw [zms_nk _ _ _ _ _ (by omega)]
              rw [this]
              exact h4 j (by omega) hj2
          · exact absurd h128 (by omega)
        · refine z_iload X dX8_up_77 rfl ?_
          refine z_aload_n X dX8_up_79 rfl ?_
          refine z_getR X dX8_up_80 f_X8_14 rfl (by first | assumption | exact zbigA.o (by assumption)) (by assumption) ?_
          refine z_iload_n X dX8_up_83 rfl ?_
          refine z_iald X (s) dX8_up_84 (by omega) (by assumption) (by omega) (by omega) ?_
          refine z_icmp_gt X dX8_up_85 111 (by decide) (by omega) (by omega) (fun h85 => ?_) (fun h85 => ?_)
          · refine z_lconst X dX8_up_111 0 rfl ?_
            refine z_lstore X dX8_up_112 (fun y => [_, _, _, _, _, _, _, _, _, some (vl y), _]) (by decide) (fun _ => rfl) (fun lo hlo => ?_)
            refine z_aload_n X dX8_up_114 rfl ?_
            refine z_getR X dX8_up_115 f_X8_8 rfl (by first | assumption | exact zbigA.o (by assumption)) (by assumption) ?_
            refine z_sipush X dX8_up_118 (by decide) ?_
            refine z_iload_n X dX8_up_121 rfl ?_
            refine z_imul X dX8_up_122 ?_
            refine z_iload X dX8_up_123 rfl ?_
            refine z_iadd X dX8_up_125 ?_
            refine z_iload X dX8_up_126 rfl ?_
            refine z_if_ne X dX8_up_128 136 (by decide) (by omega) (fun h128 => ?_) (fun h128 => ?_)
            · have f1 : hg = if r = 0 then 0 else zdg (zwd m0 q s) n (r - 1) := by unfold zdg; (repeat' split) <;> omega
              have f2 : lo = if r ≤ 1 then 0 else zdg (zwd m0 q s) n (r - 2) := by unfold zdg; (repeat' split) <;> omega
              have f3 : 0 ≤ hg ∧ hg < 4294967296 := by omega
              have f4 : 0 ≤ lo ∧ lo < 4294967296 := by omega
              refine z_lload X dX8_up_136 rfl ?_
              refine z_iload X dX8_up_138 rfl ?_
              refine z_lshl X dX8_up_140 (30) (1073741824) rfl (by omega) (by decide) ?_
              refine z_lload X dX8_up_141 rfl ?_
              refine z_bipush X dX8_up_143 (by decide) ?_
              refine z_iload X dX8_up_145 rfl ?_
              refine z_isub X dX8_up_147 ?_
              refine z_lushr X dX8_up_148 (2) (4) (by omega) (by omega) (by decide) (by omega) ?_
              refine z_lor X dX8_up_149 30 hg (by omega) rfl (by omega) (by omega) ?_
              refine z_l2i X dX8_up_150 ?_
              refine z_iast X (1200 * s + r) dX8_up_151 (by omega) (by assumption) (by omega) (by omega) ?_
              refine z_iinc X dX8_up_152 rfl (fun y => [_, _, _, _, _, some (vi y), _, _, _, _, _]) (fun _ => rfl) (fun y hy => ?_)
              obtain rfl : y = (r : Int) - 1 := by omega
              refine z_goto X dX8_up_155 21 (by decide) ?_
              refine ih _ _ _ _ _ _ (by omega) (h1.w1 (i := r) rfl (by omega)) (by rw [zms_nq _ _ _ _ _ (by omega)]; exact e1) (by rw [zms_nq _ _ _ _ _ (by omega)]; exact e2) (fun j hj => by rw [zms_nk _ _ _ _ _ (by omega)]; exact h3 j (by omega)) (fun j hj1 hj2 => ?_) K
              by_cases hj : j = r
              · subst hj
                show zms m (q + 1) (1200 * s + j) _ (q + 1) (1200 * s + j) % 4294967296 = _
                rw [zms_same]
                unfold zupv zupg
                by_cases hj0 : j = 0
                · rw [if_pos hj0] at f1
                  rw [if_pos (by omega)] at f2
                  rw [if_pos hj0, f1, f2]
                  rfl
                · rw [if_neg hj0] at f1
                  rw [if_neg hj0, ← f1]
                  by_cases hj1 : j ≤ 1
                  · rw [if_pos hj1] at f2
                    rw [if_pos (by omega), f2]
                    rfl
                  · rw [if_neg hj1] at f2
                    rw [if_neg (by omega), show j - 1 - 1 = j - 2 by omega, ← f2]
              · have : zwd (zms m (q + 1) (1200 * s + r) (hg * 1073741824 + lo / 4)) q s j = zwd m q s j := by unfold zwd; rw [zms_nk _ _ _ _ _ (by omega)]
                rw [this]
                exact h4 j (by omega) hj2
            · exact absurd h128 (by omega)
          · refine z_aload_n X dX8_up_88 rfl ?_
            refine z_getR X dX8_up_89 f_X8_8 rfl (by first | assumption | exact zbigA.o (by assumption)) (by assumption) ?_
            refine z_sipush X dX8_up_92 (by decide) ?_
            refine z_iload_n X dX8_up_95 rfl ?_
            refine z_imul X dX8_up_96 ?_
            refine z_iload X dX8_up_97 rfl ?_
            refine z_iadd X dX8_up_99 ?_
            refine z_iconst X dX8_up_100 ?_
            refine z_isub X dX8_up_101 ?_
            refine z_iald X (1200 * s + (r - 2)) dX8_up_102 (by omega) (by assumption) (by omega) (by omega) ?_
            refine z_i2lm X dX8_up_103 dX8_up_104 q_X8_64 dX8_up_107 ?_
            refine z_goto X dX8_up_108 112 (by decide) ?_
            refine z_lstore X dX8_up_112 (fun y => [_, _, _, _, _, _, _, _, _, some (vl y), _]) (by decide) (fun _ => rfl) (fun lo hlo => ?_)
            refine z_aload_n X dX8_up_114 rfl ?_
            refine z_getR X dX8_up_115 f_X8_8 rfl (by first | assumption | exact zbigA.o (by assumption)) (by assumption) ?_
            refine z_sipush X dX8_up_118 (by decide) ?_
            refine z_iload_n X dX8_up_121 rfl ?_
            refine z_imul X dX8_up_122 ?_
            refine z_iload X dX8_up_123 rfl ?_
            refine z_iadd X dX8_up_125 ?_
            refine z_iload X dX8_up_126 rfl ?_
            refine z_if_ne X dX8_up_128 136 (by decide) (by omega) (fun h128 => ?_) (fun h128 => ?_)
            · have f1 : hg = if r = 0 then 0 else zdg (zwd m0 q s) n (r - 1) := by unfold zdg; (repeat' split) <;> omega
              have f2 : lo = if r ≤ 1 then 0 else zdg (zwd m0 q s) n (r - 2) := by unfold zdg; (repeat' split) <;> omega
              have f3 : 0 ≤ hg ∧ hg < 4294967296 := by omega
              have f4 : 0 ≤ lo ∧ lo < 4294967296 := by omega
              refine z_lload X dX8_up_136 rfl ?_
              refine z_iload X dX8_up_138 rfl ?_
              refine z_lshl X dX8_up_140 (30) (1073741824) rfl (by omega) (by decide) ?_
              refine z_lload X dX8_up_141 rfl ?_
              refine z_bipush X dX8_up_143 (by decide) ?_
              refine z_iload X dX8_up_145 rfl ?_
              refine z_isub X dX8_up_147 ?_
              refine z_lushr X dX8_up_148 (2) (4) (by omega) (by omega) (by decide) (by omega) ?_
              refine z_lor X dX8_up_149 30 hg (by omega) rfl (by omega) (by omega) ?_
              refine z_l2i X dX8_up_150 ?_
              refine z_iast X (1200 * s + r) dX8_up_151 (by omega) (by assumption) (by omega) (by omega) ?_
              refine z_iinc X dX8_up_152 rfl (fun y => [_, _, _, _, _, some (vi y), _, _, _, _, _]) (fun _ => rfl) (fun y hy => ?_)
              obtain rfl : y = (r : Int) - 1 := by omega
              refine z_goto X dX8_up_155 21 (by decide) ?_
              refine ih _ _ _ _ _ _ (by omega) (h1.w1 (i := r) rfl (by omega)) (by rw [zms_nq _ _ _ _ _ (by omega)]; exact e1) (by rw [zms_nq _ _ _ _ _ (by omega)]; exact e2) (fun j hj => by rw [zms_nk _ _ _ _ _ (by omega)]; exact h3 j (by omega)) (fun j hj1 hj2 => ?_) K
              by_cases hj : j = r
              · subst hj
                show zms m (q + 1) (1200 * s + j) _ (q + 1) (1200 * s + j) % 4294967296 = _
                rw [zms_same]
                unfold zupv zupg
                by_cases hj0 : j = 0
                · rw [if_pos hj0] at f1
                  rw [if_pos (by omega)] at f2
                  rw [if_pos hj0, f1, f2]
                  rfl
                · rw [if_neg hj0] at f1
                  rw [if_neg hj0, ← f1]
                  by_cases hj1 : j ≤ 1
                  · rw [if_pos hj1] at f2
                    rw [if_pos (by omega), f2]
                    rfl
                  · rw [if_neg hj1] at f2
                    rw [if_neg (by omega), show j - 1 - 1 = j - 2 by omega, ← f2]
              · have : zwd (zms m (q + 1) (1200 * s + r) (hg * 1073741824 + lo / 4)) q s j = zwd m q s j := by unfold zwd; rw [zms_nk _ _ _ _ _ (by omega)]
                rw [this]
                exact h4 j (by omega) hj2
            · exact absurd h128 (by omega)
      · refine z_iload X dX8_up_37 rfl ?_
        refine z_aload_n X dX8_up_39 rfl ?_
        refine z_getR X dX8_up_40 f_X8_14 rfl (by first | assumption | exact zbigA.o (by assumption)) (by assumption) ?_
        refine z_iload_n X dX8_up_43 rfl ?_
        refine z_iald X (s) dX8_up_44 (by omega) (by assumption) (by omega) (by omega) ?_
        refine z_icmp_ge X dX8_up_45 69 (by decide) (by omega) (by omega) (fun h45 => ?_) (fun h45 => ?_)
        · refine z_lconst X dX8_up_69 0 rfl ?_
          refine z_lstore X dX8_up_70 (fun y => [_, _, _, _, _, _, _, some (vl y), _, _, _]) (by decide) (fun _ => rfl) (fun hg hhg => ?_)
          refine z_iload X dX8_up_72 rfl ?_
          refine z_if_le X dX8_up_74 111 (by decide) (by omega) (fun h74 => ?_) (fun h74 => ?_)
          · refine z_lconst X dX8_up_111 0 rfl ?_
            refine z_lstore X dX8_up_112 (fun y => [_, _, _, _, _, _, _, _, _, some (vl y), _]) (by decide) (fun _ => rfl) (fun lo hlo => ?_)
            refine z_aload_n X dX8_up_114 rfl ?_
            refine z_getR X dX8_up_115 f_X8_8 rfl (by first | assumption | exact zbigA.o (by assumption)) (by assumption) ?_
            refine z_sipush X dX8_up_118 (by decide) ?_
            refine z_iload_n X dX8_up_121 rfl ?_
            refine z_imul X dX8_up_122 ?_
            refine z_iload X dX8_up_123 rfl ?_
            refine z_iadd X dX8_up_125 ?_
            refine z_iload X dX8_up_126 rfl ?_
            refine z_if_ne X dX8_up_128 136 (by decide) (by omega) (fun h128 => ?_) (fun h128 => ?_)
            · have f1 : hg = if r = 0 then 0 else zdg (zwd m0 q s) n (r - 1) := by unfold zdg; (repeat' split) <;> omega
              have f2 : lo = if r ≤ 1 then 0 else zdg (zwd m0 q s) n (r - 2) := by unfold zdg; (repeat' split) <;> omega
              have f3 : 0 ≤ hg ∧ hg < 4294967296 := by omega
              have f4 : 0 ≤ lo ∧ lo < 4294967296 := by omega
              refine z_lload X dX8_up_136 rfl ?_
              refine z_iload X dX8_up_138 rfl ?_
              refine z_lshl X dX8_up_140 (30) (1073741824) rfl (by omega) (by decide) ?_
              refine z_lload X dX8_up_141 rfl ?_
              refine z_bipush X dX8_up_143 (by decide) ?_
              refine z_iload X dX8_up_145 rfl ?_
              refine z_isub X dX8_up_147 ?_
              refine z_lushr X dX8_up_148 (2) (4) (by omega) (by omega) (by decide) (by omega) ?_
              refine z_lor X dX8_up_149 30 hg (by omega) rfl (by omega) (by omega) ?_
              refine z_l2i X dX8_up_150 ?_
              refine z_iast X (1200 * s + r) dX8_up_151 (by omega) (by assumption) (by omega) (by omega) ?_
              refine z_iinc X dX8_up_152 rfl (fun y => [_, _, _, _, _, some (vi y), _, _, _, _, _]) (fun _ => rfl) (fun y hy => ?_)
              obtain rfl : y = (r : Int) - 1 := by omega
              refine z_goto X dX8_up_155 21 (by decide) ?_
              refine ih _ _ _ _ _ _ (by omega) (h1.w1 (i := r) rfl (by omega)) (by rw [zms_nq _ _ _ _ _ (by omega)]; exact e1) (by rw [zms_nq _ _ _ _ _ (by omega)]; exact e2) (fun j hj => by rw [zms_nk _ _ _ _ _ (by omega)]; exact h3 j (by omega)) (fun j hj1 hj2 => ?_) K
              by_cases hj : j = r
              · subst hj
                show zms m (q + 1) (1200 * s + j) _ (q + 1) (1200 * s + j) % 4294967296 = _
                rw [zms_same]
                unfold zupv zupg
                by_cases hj0 : j = 0
                · rw [if_pos hj0] at f1
                  rw [if_pos (by omega)] at f2
                  rw [if_pos hj0, f1, f2]
                  rfl
                · rw [if_neg hj0] at f1
                  rw [if_neg hj0, ← f1]
                  by_cases hj1 : j ≤ 1
                  · rw [if_pos hj1] at f2
                    rw [if_pos (by omega), f2]
                    rfl
                  · rw [if_neg hj1] at f2
                    rw [if_neg (by omega), show j - 1 - 1 = j - 2 by omega, ← f2]
              · have : zwd (zms m (q + 1) (1200 * s + r) (hg * 1073741824 + lo / 4)) q s j = zwd m q s j := by unfold zwd; rw [zms_nk _ _ _ _ _ (by omega)]
                rw [this]
                exact h4 j (by omega) hj2
            · exact absurd h128 (by omega)
          · refine z_iload X dX8_up_77 rfl ?_
            refine z_aload_n X dX8_up_79 rfl ?_
            refine z_getR X dX8_up_80 f_X8_14 rfl (by first | assumption | exact zbigA.o (by assumption)) (by assumption) ?_
            refine z_iload_n X dX8_up_83 rfl ?_
            refine z_iald X (s) dX8_up_84 (by omega) (by assumption) (by omega) (by omega) ?_
            refine z_icmp_gt X dX8_up_85 111 (by decide) (by omega) (by omega) (fun h85 => ?_) (fun h85 => ?_)
            · refine z_lconst X dX8_up_111 0 rfl ?_
              refine z_lstore X dX8_up_112 (fun y => [_, _, _, _, _, _, _, _, _, some (vl y), _]) (by decide) (fun _ => rfl) (fun lo hlo => ?_)
              refine z_aload_n X dX8_up_114 rfl ?_
              refine z_getR X dX8_up_115 f_X8_8 rfl (by first | assumption | exact zbigA.o (by assumption)) (by assumption) ?_
              refine z_sipush X dX8_up_118 (by decide) ?_
              refine z_iload_n X dX8_up_121 rfl ?_
              refine z_imul X dX8_up_122 ?_
              refine z_iload X dX8_up_123 rfl ?_
              refine z_iadd X dX8_up_125 ?_
              refine z_iload X dX8_up_126 rfl ?_
              refine z_if_ne X dX8_up_128 136 (by decide) (by omega) (fun h128 => ?_) (fun h128 => ?_)
              · have f1 : hg = if r = 0 then 0 else zdg (zwd m0 q s) n (r - 1) := by unfold zdg; (repeat' split) <;> omega
                have f2 : lo = if r ≤ 1 then 0 else zdg (zwd m0 q s) n (r - 2) := by unfold zdg; (repeat' split) <;> omega
                have f3 : 0 ≤ hg ∧ hg < 4294967296 := by omega
                have f4 : 0 ≤ lo ∧ lo < 4294967296 := by omega
                refine z_lload X dX8_up_136 rfl ?_
                refine z_iload X dX8_up_138 rfl ?_
                refine z_lshl X dX8_up_140 (30) (1073741824) rfl (by omega) (by decide) ?_
                refine z_lload X dX8_up_141 rfl ?_
                refine z_bipush X dX8_up_143 (by decide) ?_
                refine z_iload X dX8_up_145 rfl ?_
                refine z_isub X dX8_up_147 ?_
                refine z_lushr X dX8_up_148 (2) (4) (by omega) (by omega) (by decide) (by omega) ?_
                refine z_lor X dX8_up_149 30 hg (by omega) rfl (by omega) (by omega) ?_
                refine z_l2i X dX8_up_150 ?_
                refine z_iast X (1200 * s + r) dX8_up_151 (by omega) (by assumption) (by omega) (by omega) ?_
                refine z_iinc X dX8_up_152 rfl (fun y => [_, _, _, _, _, some (vi y), _, _, _, _, _]) (fun _ => rfl) (fun y hy => ?_)
                obtain rfl : y = (r : Int) - 1 := by omega
                refine z_goto X dX8_up_155 21 (by decide) ?_
                refine ih _ _ _ _ _ _ (by omega) (h1.w1 (i := r) rfl (by omega)) (by rw [zms_nq _ _ _ _ _ (by omega)]; exact e1) (by rw [zms_nq _ _ _ _ _ (by omega)]; exact e2) (fun j hj => by rw [zms_nk _ _ _ _ _ (by omega)]; exact h3 j (by omega)) (fun j hj1 hj2 => ?_) K
                by_cases hj : j = r
                · subst hj
                  show zms m (q + 1) (1200 * s + j) _ (q + 1) (1200 * s + j) % 4294967296 = _
                  rw [zms_same]
                  unfold zupv zupg
                  by_cases hj0 : j = 0
                  · rw [if_pos hj0] at f1
                    rw [if_pos (by omega)] at f2
                    rw [if_pos hj0, f1, f2]
                    rfl
                  · rw [if_neg hj0] at f1
                    rw [if_neg hj0, ← f1]
                    by_cases hj1 : j ≤ 1
                    · rw [if_pos hj1] at f2
                      rw [if_pos (by omega), f2]
                      rfl
                    · rw [if_neg hj1] at f2
                      rw [if_neg (by omega), show j - 1 - 1 = j - 2 by omega, ← f2]
                · have : zwd (zms m (q + 1) (1200 * s + r) (hg * 1073741824 + lo / 4)) q s j = zwd m q s j := by unfold zwd; rw [zms_nk _ _ _ _ _ (by omega)]
                  rw [this]
                  exact h4 j (by omega) hj2
              · exact absurd h128 (by omega)
            · refine z_aload_n X dX8_up_88 rfl ?_
              refine z_getR X dX8_up_89 f_X8_8 rfl (by first | assumption | exact zbigA.o (by assumption)) (by assumption) ?_
              refine z_sipush X dX8_up_92 (by decide) ?_
              refine z_iload_n X dX8_up_95 rfl ?_
              refine z_imul X dX8_up_96 ?_
              refine z_iload X dX8_up_97 rfl ?_
              refine z_iadd X dX8_up_99 ?_
              refine z_iconst X dX8_up_100 ?_
              refine z_isub X dX8_up_101 ?_
              refine z_iald X (1200 * s + (r - 2)) dX8_up_102 (by omega) (by assumption) (by omega) (by omega) ?_
              refine z_i2lm X dX8_up_103 dX8_up_104 q_X8_64 dX8_up_107 ?_
              refine z_goto X dX8_up_108 112 (by decide) ?_
              refine z_lstore X dX8_up_112 (fun y => [_, _, _, _, _, _, _, _, _, some (vl y), _]) (by decide) (fun _ => rfl) (fun lo hlo => ?_)
              refine z_aload_n X dX8_up_114 rfl ?_
              refine z_getR X dX8_up_115 f_X8_8 rfl (by first | assumption | exact zbigA.o (by assumption)) (by assumption) ?_
              refine z_sipush X dX8_up_118 (by decide) ?_
              refine z_iload_n X dX8_up_121 rfl ?_
              refine z_imul X dX8_up_122 ?_
              refine z_iload X dX8_up_123 rfl ?_
              refine z_iadd X dX8_up_125 ?_
              refine z_iload X dX8_up_126 rfl ?_
              refine z_if_ne X dX8_up_128 136 (by decide) (by omega) (fun h128 => ?_) (fun h128 => ?_)
              · have f1 : hg = if r = 0 then 0 else zdg (zwd m0 q s) n (r - 1) := by unfold zdg; (repeat' split) <;> omega
                have f2 : lo = if r ≤ 1 then 0 else zdg (zwd m0 q s) n (r - 2) := by unfold zdg; (repeat' split) <;> omega
                have f3 : 0 ≤ hg ∧ hg < 4294967296 := by omega
                have f4 : 0 ≤ lo ∧ lo < 4294967296 := by omega
                refine z_lload X dX8_up_136 rfl ?_
                refine z_iload X dX8_up_138 rfl ?_
                refine z_lshl X dX8_up_140 (30) (1073741824) rfl (by omega) (by decide) ?_
                refine z_lload X dX8_up_141 rfl ?_
                refine z_bipush X dX8_up_143 (by decide) ?_
                refine z_iload X dX8_up_145 rfl ?_
                refine z_isub X dX8_up_147 ?_
                refine z_lushr X dX8_up_148 (2) (4) (by omega) (by omega) (by decide) (by omega) ?_
                refine z_lor X dX8_up_149 30 hg (by omega) rfl (by omega) (by omega) ?_
                refine z_l2i X dX8_up_150 ?_
                refine z_iast X (1200 * s + r) dX8_up_151 (by omega) (by assumption) (by omega) (by omega) ?_
                refine z_iinc X dX8_up_152 rfl (fun y => [_, _, _, _, _, some (vi y), _, _, _, _, _]) (fun _ => rfl) (fun y hy => ?_)
                obtain rfl : y = (r : Int) - 1 := by omega
                refine z_goto X dX8_up_155 21 (by decide) ?_
                refine ih _ _ _ _ _ _ (by omega) (h1.w1 (i := r) rfl (by omega)) (by rw [zms_nq _ _ _ _ _ (by omega)]; exact e1) (by rw [zms_nq _ _ _ _ _ (by omega)]; exact e2) (fun j hj => by rw [zms_nk _ _ _ _ _ (by omega)]; exact h3 j (by omega)) (fun j hj1 hj2 => ?_) K
                by_cases hj : j = r
                · subst hj
                  show zms m (q + 1) (1200 * s + j) _ (q + 1) (1200 * s + j) % 4294967296 = _
                  rw [zms_same]
                  unfold zupv zupg
                  by_cases hj0 : j = 0
                  · rw [if_pos hj0] at f1
                    rw [if_pos (by omega)] at f2
                    rw [if_pos hj0, f1, f2]
                    rfl
                  · rw [if_neg hj0] at f1
                    rw [if_neg hj0, ← f1]
                    by_cases hj1 : j ≤ 1
                    · rw [if_pos hj1] at f2
                      rw [if_pos (by omega), f2]
                      rfl
                    · rw [if_neg hj1] at f2
                      rw [if_neg (by omega), show j - 1 - 1 = j - 2 by omega, ← f2]
                · have : zwd (zms m (q + 1) (1200 * s + r) (hg * 1073741824 + lo / 4)) q s j = zwd m q s j := by unfold zwd; rw [zms_nk _ _ _ _ _ (by omega)]
                  rw [this]
                  exact h4 j (by omega) hj2
              · exact absurd h128 (by omega)
        · refine z_aload_n X dX8_up_48 rfl ?_
          refine z_getR X dX8_up_49 f_X8_8 rfl (by first | assumption | exact zbigA.o (by assumption)) (by assumption) ?_
          refine z_sipush X dX8_up_52 (by decide) ?_
          refine z_iload_n X dX8_up_55 rfl ?_
          refine z_imul X dX8_up_56 ?_
          refine z_iload X dX8_up_57 rfl ?_
          refine z_iadd X dX8_up_59 ?_
          refine z_iald X (1200 * s + (r - 1)) dX8_up_60 (by omega) (by assumption) (by omega) (by omega) ?_
          refine z_i2lm X dX8_up_61 dX8_up_62 q_X8_64 dX8_up_65 ?_
          refine z_goto X dX8_up_66 70 (by decide) ?_
          refine z_lstore X dX8_up_70 (fun y => [_, _, _, _, _, _, _, some (vl y), _, _, _]) (by decide) (fun _ => rfl) (fun hg hhg => ?_)
          refine z_iload X dX8_up_72 rfl ?_
          refine z_if_le X dX8_up_74 111 (by decide) (by omega) (fun h74 => ?_) (fun h74 => ?_)
          · refine z_lconst X dX8_up_111 0 rfl ?_
            refine z_lstore X dX8_up_112 (fun y => [_, _, _, _, _, _, _, _, _, some (vl y), _]) (by decide) (fun _ => rfl) (fun lo hlo => ?_)
            refine z_aload_n X dX8_up_114 rfl ?_
            refine z_getR X dX8_up_115 f_X8_8 rfl (by first | assumption | exact zbigA.o (by assumption)) (by assumption) ?_
            refine z_sipush X dX8_up_118 (by decide) ?_
            refine z_iload_n X dX8_up_121 rfl ?_
            refine z_imul X dX8_up_122 ?_
            refine z_iload X dX8_up_123 rfl ?_
            refine z_iadd X dX8_up_125 ?_
            refine z_iload X dX8_up_126 rfl ?_
            refine z_if_ne X dX8_up_128 136 (by decide) (by omega) (fun h128 => ?_) (fun h128 => ?_)
            · have f1 : hg = if r = 0 then 0 else zdg (zwd m0 q s) n (r - 1) := by unfold zdg; (repeat' split) <;> omega
              have f2 : lo = if r ≤ 1 then 0 else zdg (zwd m0 q s) n (r - 2) := by unfold zdg; (repeat' split) <;> omega
              have f3 : 0 ≤ hg ∧ hg < 4294967296 := by omega
              have f4 : 0 ≤ lo ∧ lo < 4294967296 := by omega
              refine z_lload X dX8_up_136 rfl ?_
              refine z_iload X dX8_up_138 rfl ?_
              refine z_lshl X dX8_up_140 (30) (1073741824) rfl (by omega) (by decide) ?_
              refine z_lload X dX8_up_141 rfl ?_
              refine z_bipush X dX8_up_143 (by decide) ?_
              refine z_iload X dX8_up_145 rfl ?_
              refine z_isub X dX8_up_147 ?_
              refine z_lushr X dX8_up_148 (2) (4) (by omega) (by omega) (by decide) (by omega) ?_
              refine z_lor X dX8_up_149 30 hg (by omega) rfl (by omega) (by omega) ?_
              refine z_l2i X dX8_up_150 ?_
              refine z_iast X (1200 * s + r) dX8_up_151 (by omega) (by assumption) (by omega) (by omega) ?_
              refine z_iinc X dX8_up_152 rfl (fun y => [_, _, _, _, _, some (vi y), _, _, _, _, _]) (fun _ => rfl) (fun y hy => ?_)
              obtain rfl : y = (r : Int) - 1 := by omega
              refine z_goto X dX8_up_155 21 (by decide) ?_
              refine ih _ _ _ _ _ _ (by omega) (h1.w1 (i := r) rfl (by omega)) (by rw [zms_nq _ _ _ _ _ (by omega)]; exact e1) (by rw [zms_nq _ _ _ _ _ (by omega)]; exact e2) (fun j hj => by rw [zms_nk _ _ _ _ _ (by omega)]; exact h3 j (by omega)) (fun j hj1 hj2 => ?_) K
              by_cases hj : j = r
              · subst hj
                show zms m (q + 1) (1200 * s + j) _ (q + 1) (1200 * s + j) % 4294967296 = _
                rw [zms_same]
                unfold zupv zupg
                by_cases hj0 : j = 0
                · rw [if_pos hj0] at f1
                  rw [if_pos (by omega)] at f2
                  rw [if_pos hj0, f1, f2]
                  rfl
                · rw [if_neg hj0] at f1
                  rw [if_neg hj0, ← f1]
                  by_cases hj1 : j ≤ 1
                  · rw [if_pos hj1] at f2
                    rw [if_pos (by omega), f2]
                    rfl
                  · rw [if_neg hj1] at f2
                    rw [if_neg (by omega), show j - 1 - 1 = j - 2 by omega, ← f2]
              · have : zwd (zms m (q + 1) (1200 * s + r) (hg * 1073741824 + lo / 4)) q s j = zwd m q s j := by unfold zwd; rw [zms_nk _ _ _ _ _ (by omega)]
                rw [this]
                exact h4 j (by omega) hj2
            · exact absurd h128 (by omega)
          · refine z_iload X dX8_up_77 rfl ?_
            refine z_aload_n X dX8_up_79 rfl ?_
            refine z_getR X dX8_up_80 f_X8_14 rfl (by first | assumption | exact zbigA.o (by assumption)) (by assumption) ?_
            refine z_iload_n X dX8_up_83 rfl ?_
            refine z_iald X (s) dX8_up_84 (by omega) (by assumption) (by omega) (by omega) ?_
            refine z_icmp_gt X dX8_up_85 111 (by decide) (by omega) (by omega) (fun h85 => ?_) (fun h85 => ?_)
            · refine z_lconst X dX8_up_111 0 rfl ?_
              refine z_lstore X dX8_up_112 (fun y => [_, _, _, _, _, _, _, _, _, some (vl y), _]) (by decide) (fun _ => rfl) (fun lo hlo => ?_)
              refine z_aload_n X dX8_up_114 rfl ?_
              refine z_getR X dX8_up_115 f_X8_8 rfl (by first | assumption | exact zbigA.o (by assumption)) (by assumption) ?_
              refine z_sipush X dX8_up_118 (by decide) ?_
              refine z_iload_n X dX8_up_121 rfl ?_
              refine z_imul X dX8_up_122 ?_
              refine z_iload X dX8_up_123 rfl ?_
              refine z_iadd X dX8_up_125 ?_
              refine z_iload X dX8_up_126 rfl ?_
              refine z_if_ne X dX8_up_128 136 (by decide) (by omega) (fun h128 => ?_) (fun h128 => ?_)
              · have f1 : hg = if r = 0 then 0 else zdg (zwd m0 q s) n (r - 1) := by unfold zdg; (repeat' split) <;> omega
                have f2 : lo = if r ≤ 1 then 0 else zdg (zwd m0 q s) n (r - 2) := by unfold zdg; (repeat' split) <;> omega
                have f3 : 0 ≤ hg ∧ hg < 4294967296 := by omega
                have f4 : 0 ≤ lo ∧ lo < 4294967296 := by omega
                refine z_lload X dX8_up_136 rfl ?_
                refine z_iload X dX8_up_138 rfl ?_
                refine z_lshl X dX8_up_140 (30) (1073741824) rfl (by omega) (by decide) ?_
                refine z_lload X dX8_up_141 rfl ?_
                refine z_bipush X dX8_up_143 (by decide) ?_
                refine z_iload X dX8_up_145 rfl ?_
                refine z_isub X dX8_up_147 ?_
                refine z_lushr X dX8_up_148 (2) (4) (by omega) (by omega) (by decide) (by omega) ?_
                refine z_lor X dX8_up_149 30 hg (by omega) rfl (by omega) (by omega) ?_
                refine z_l2i X dX8_up_150 ?_
                refine z_iast X (1200 * s + r) dX8_up_151 (by omega) (by assumption) (by omega) (by omega) ?_
                refine z_iinc X dX8_up_152 rfl (fun y => [_, _, _, _, _, some (vi y), _, _, _, _, _]) (fun _ => rfl) (fun y hy => ?_)
                obtain rfl : y = (r : Int) - 1 := by omega
                refine z_goto X dX8_up_155 21 (by decide) ?_
                refine ih _ _ _ _ _ _ (by omega) (h1.w1 (i := r) rfl (by omega)) (by rw [zms_nq _ _ _ _ _ (by omega)]; exact e1) (by rw [zms_nq _ _ _ _ _ (by omega)]; exact e2) (fun j hj => by rw [zms_nk _ _ _ _ _ (by omega)]; exact h3 j (by omega)) (fun j hj1 hj2 => ?_) K
                by_cases hj : j = r
                · subst hj
                  show zms m (q + 1) (1200 * s + j) _ (q + 1) (1200 * s + j) % 4294967296 = _
                  rw [zms_same]
                  unfold zupv zupg
                  by_cases hj0 : j = 0
                  · rw [if_pos hj0] at f1
                    rw [if_pos (by omega)] at f2
                    rw [if_pos hj0, f1, f2]
                    rfl
                  · rw [if_neg hj0] at f1
                    rw [if_neg hj0, ← f1]
                    by_cases hj1 : j ≤ 1
                    · rw [if_pos hj1] at f2
                      rw [if_pos (by omega), f2]
                      rfl
                    · rw [if_neg hj1] at f2
                      rw [if_neg (by omega), show j - 1 - 1 = j - 2 by omega, ← f2]
                · have : zwd (zms m (q + 1) (1200 * s + r) (hg * 1073741824 + lo / 4)) q s j = zwd m q s j := by unfold zwd; rw [zms_nk _ _ _ _ _ (by omega)]
                  rw [this]
                  exact h4 j (by omega) hj2
              · exact absurd h128 (by omega)
            · refine z_aload_n X dX8_up_88 rfl ?_
              refine z_getR X dX8_up_89 f_X8_8 rfl (by first | assumption | exact zbigA.o (by assumption)) (by assumption) ?_
              refine z_sipush X dX8_up_92 (by decide) ?_
              refine z_iload_n X dX8_up_95 rfl ?_
              refine z_imul X dX8_up_96 ?_
              refine z_iload X dX8_up_97 rfl ?_
              refine z_iadd X dX8_up_99 ?_
              refine z_iconst X dX8_up_100 ?_
              refine z_isub X dX8_up_101 ?_
              refine z_iald X (1200 * s + (r - 2)) dX8_up_102 (by omega) (by assumption) (by omega) (by omega) ?_
              refine z_i2lm X dX8_up_103 dX8_up_104 q_X8_64 dX8_up_107 ?_
              refine z_goto X dX8_up_108 112 (by decide) ?_
              refine z_lstore X dX8_up_112 (fun y => [_, _, _, _, _, _, _, _, _, some (vl y), _]) (by decide) (fun _ => rfl) (fun lo hlo => ?_)
              refine z_aload_n X dX8_up_114 rfl ?_
              refine z_getR X dX8_up_115 f_X8_8 rfl (by first | assumption | exact zbigA.o (by assumption)) (by assumption) ?_
              refine z_sipush X dX8_up_118 (by decide) ?_
              refine z_iload_n X dX8_up_121 rfl ?_
              refine z_imul X dX8_up_122 ?_
              refine z_iload X dX8_up_123 rfl ?_
              refine z_iadd X dX8_up_125 ?_
              refine z_iload X dX8_up_126 rfl ?_
              refine z_if_ne X dX8_up_128 136 (by decide) (by omega) (fun h128 => ?_) (fun h128 => ?_)
              · have f1 : hg = if r = 0 then 0 else zdg (zwd m0 q s) n (r - 1) := by unfold zdg; (repeat' split) <;> omega
                have f2 : lo = if r ≤ 1 then 0 else zdg (zwd m0 q s) n (r - 2) := by unfold zdg; (repeat' split) <;> omega
                have f3 : 0 ≤ hg ∧ hg < 4294967296 := by omega
                have f4 : 0 ≤ lo ∧ lo < 4294967296 := by omega
                refine z_lload X dX8_up_136 rfl ?_
                refine z_iload X dX8_up_138 rfl ?_
                refine z_lshl X dX8_up_140 (30) (1073741824) rfl (by omega) (by decide) ?_
                refine z_lload X dX8_up_141 rfl ?_
                refine z_bipush X dX8_up_143 (by decide) ?_
                refine z_iload X dX8_up_145 rfl ?_
                refine z_isub X dX8_up_147 ?_
                refine z_lushr X dX8_up_148 (2) (4) (by omega) (by omega) (by decide) (by omega) ?_
                refine z_lor X dX8_up_149 30 hg (by omega) rfl (by omega) (by omega) ?_
                refine z_l2i X dX8_up_150 ?_
                refine z_iast X (1200 * s + r) dX8_up_151 (by omega) (by assumption) (by omega) (by omega) ?_
                refine z_iinc X dX8_up_152 rfl (fun y => [_, _, _, _, _, some (vi y), _, _, _, _, _]) (fun _ => rfl) (fun y hy => ?_)
                obtain rfl : y = (r : Int) - 1 := by omega
                refine z_goto X dX8_up_155 21 (by decide) ?_
                refine ih _ _ _ _ _ _ (by omega) (h1.w1 (i := r) rfl (by omega)) (by rw [zms_nq _ _ _ _ _ (by omega)]; exact e1) (by rw [zms_nq _ _ _ _ _ (by omega)]; exact e2) (fun j hj => by rw [zms_nk _ _ _ _ _ (by omega)]; exact h3 j (by omega)) (fun j hj1 hj2 => ?_) K
                by_cases hj : j = r
                · subst hj
                  show zms m (q + 1) (1200 * s + j) _ (q + 1) (1200 * s + j) % 4294967296 = _
                  rw [zms_same]
                  unfold zupv zupg
                  by_cases hj0 : j = 0
                  · rw [if_pos hj0] at f1
                    rw [if_pos (by omega)] at f2
                    rw [if_pos hj0, f1, f2]
                    rfl
                  · rw [if_neg hj0] at f1
                    rw [if_neg hj0, ← f1]
                    by_cases hj1 : j ≤ 1
                    · rw [if_pos hj1] at f2
                      rw [if_pos (by omega), f2]
                      rfl
                    · rw [if_neg hj1] at f2
                      rw [if_neg (by omega), show j - 1 - 1 = j - 2 by omega, ← f2]
                · have : zwd (zms m (q + 1) (1200 * s + r) (hg * 1073741824 + lo / 4)) q s j = zwd m q s j := by unfold zwd; rw [zms_nk _ _ _ _ _ (by omega)]
                  rw [this]
                  exact h4 j (by omega) hj2
              · exact absurd h128 (by omega)
theorem c_X8_up (G : zG) {A : zA} {m : zM} {q s : Nat} {si v : Int} (hA : zmodA A q) (hsi : si = (s : Int)) (hs : s < 60) (hv : zsl m q s v) (hv0 : 0 ≤ v) (bv : zle v 37000) :
    zMet G k_X8_up [vr q, vi si, vi 62] A m (zpv A (fun m' => zsl m' q s (v * 4611686018427387904) ∧ zsP q (fun z => z = s) m m')) := by
  subst hsi
  obtain ⟨⟨hO0, f0, f1, f2, f3, f4, f5, f6, f7, f8, f9, f10, f11, f12, f16, f24, f25⟩, ⟨g1, g2, g3⟩, ⟨g4, g5, g6, g7, g8, g9⟩, ⟨g10, g11, g12, g13⟩, g14, g15, g16⟩ := id hA
  obtain ⟨n, ⟨hn, hn2⟩, tn, vn, sn⟩ := hv
  have ln : n ≤ 1160 := zlen32 (fun i _ => zwd_bd m q s i) tn (by rw [← vn]; exact bv.lt32 (by omega))
  have hsum := zup_sum (f := zdg (zwd m q s) n) (zdg_in (fun i => zwd_bd m q s i) n) (n + 1)
  have hg : zupg (zdg (zwd m q s) n) (n + 1) = 0 := by unfold zupg zdg; rw [if_neg (by omega), Nat.add_sub_cancel, if_neg (by omega)]; rfl
  rw [hg, Int.zero_mul, Int.add_zero, zsum_dg (by omega), ← vn] at hsum
  refine zMet.of RX8 rfl (by decide +kernel) (Nat.le_of_ble_eq_true rfl) [some (vr q), some (vi (s : Int)), some (vi 62), none, none, none, none, none, none, none, none] rfl (fun E hG X hQ hNm => ?_)
  subst hG
  refine z_iload_n X dX8_up_0 rfl ?_
  refine z_bipush X dX8_up_1 (by decide) ?_
  refine z_idiv X dX8_up_3 (by omega) (by omega) ?_
  refine z_istore_n X dX8_up_4 (fun y => [_, _, _, some (vi y), _, _, _, _, _, _, _]) (by decide) (fun _ => rfl) (fun w hw => ?_)
  refine z_iload_n X dX8_up_5 rfl ?_
  refine z_bipush X dX8_up_6 (by decide) ?_
  refine z_irem X dX8_up_8 (by omega) (by omega) ?_
  refine z_istore X dX8_up_9 (fun y => [_, _, _, _, some (vi y), _, _, _, _, _, _]) (by decide) (fun _ => rfl) (fun t ht => ?_)
  refine z_aload_n X dX8_up_11 rfl ?_
  refine z_getR X dX8_up_12 f_X8_14 rfl (by first | assumption | exact zbigA.o (by assumption)) (by assumption) ?_
  refine z_iload_n X dX8_up_15 rfl ?_
  refine z_iald X (_) dX8_up_16 rfl (by assumption) (by omega) (by omega) ?_
  refine z_iload_n X dX8_up_17 rfl ?_
  refine z_iadd X dX8_up_18 ?_
  refine z_istore X dX8_up_19 (fun y => [_, _, _, _, _, some (vi y), _, _, _, _, _]) (by decide) (fun _ => rfl) (fun e he => ?_)
  obtain rfl : w = 1 := by omega
  obtain rfl : t = 30 := by omega
  obtain rfl : e = ((n + 2 : Nat) : Int) - 1 := by omega
  refine zl8_up X hA hs hn (by omega) (n + 2) m none none none none none (by omega) zsP.rfl' hn rfl (fun _ _ => rfl) (fun j h1 h2 => absurd h1 (by omega)) (fun m' l6 l7 l8 l9 l10 h1 h2 h3 h4 => ?_)
  have e5 : zsum 4294967296 (zwd (zms m' (q + 2) s ((n : Int) + (1 + 1))) q s) (n + 2) = zsum 4294967296 (zupv (zdg (zwd m q s) n)) (n + 2) := zsum_congr (fun j hj => by rw [← h4 j hj]; unfold zwd; rw [zms_nq _ _ _ _ _ (by omega)])
  refine z_aload_n X dX8_up_158 rfl ?_
  refine z_getR X dX8_up_159 f_X8_14 rfl (by first | assumption | exact zbigA.o (by assumption)) (by assumption) ?_
  refine z_iload_n X dX8_up_162 rfl ?_
  refine z_dup2 X dX8_up_163 rfl rfl ?_
  refine z_iald X (s) dX8_up_164 (by omega) (by assumption) (by omega) (by omega) ?_
  refine z_iload_n X dX8_up_165 rfl ?_
  refine z_iconst X dX8_up_166 ?_
  refine z_iadd X dX8_up_167 ?_
  refine z_iadd X dX8_up_168 ?_
  rw [show m' (q + 2) s = (n : Int) from h2]
  refine z_iast X (s) dX8_up_169 (by omega) (by assumption) (by omega) (by omega) ?_
  refine z_aload_n X dX8_up_170 rfl ?_
  refine z_iload_n X dX8_up_171 rfl ?_
  refine z_callVv X (As := [_]) dX8_up_172 m_X8_trim i_X8_trim l_X8_66 (c_X8_trim (zg E) (n := n + 2) (v := v * 4611686018427387904) hA rfl hs (by rw [zms_same]; omega) (by omega) (by rw [e5, zabs_mul]; exact hsum.symm) (by rw [zms_nq _ _ _ _ _ (by omega), h3]; omega)) (by first | assumption | exact zbigA.o (by assumption)) rfl rfl rfl (Nat.le_of_ble_eq_true rfl) ⟨Nat.le_of_ble_eq_true rfl, Nat.le_of_ble_eq_true rfl⟩ ⟨Nat.le_of_ble_eq_true rfl, Nat.le_of_ble_eq_true rfl⟩ ⟨rfl, rfl⟩ (fun m5 hm5 => ?_)
  refine z_return (st := []) X rfl hQ dX8_up_175 ⟨rfl, rfl, ?_⟩
  exact ⟨hm5.1, (h1.w2 rfl).t hm5.2⟩
def zhfv (f : Nat → Int) (k : Nat) : Int := (f k / 2 + f (k + 1) * 2147483648) % 4294967296
theorem zhf_step {S Z v a b f p c : Int} (h1 : 2 * Z + c = S + a * p) (h2 : 2 * v + a = f + b * 4294967296) : 2 * (Z + v * p) + c = S + f * p + b * (p * 4294967296) := by grind
theorem zhf_sum {f : Nat → Int} (hf : ∀ i, 0 ≤ f i ∧ f i < 4294967296) : ∀ k, 2 * zsum 4294967296 (zhfv f) k + f 0 % 2 = zsum 4294967296 f k + f k % 2 * 4294967296 ^ k
  | 0 => by simp [zsum]
  | k + 1 => by
    rw [zsum_s, zsum_s (f := f), Int.pow_succ]
    refine zhf_step (zhf_sum hf k) ?_
    have h1 := hf k
    have h2 := hf (k + 1)
    unfold zhfv
    omega
theorem zl8_half {E : zCx} {rm : Room} {cs : Nat × Nat} {A : zA} (X : zOK E cX8_half RX8 5 none rm) {q s n : Nat} (hA : zmodA A q) (hs : s < 60) {m0 : zM} (hn : m0 (q + 2) s = (n : Int)) (hn2 : n ≤ 1200) : ∀ (r i : Nat) (m : zM) (l3 l4 : Option Value), i + r = n → zsP q (fun z => z = s) m0 m → m (q + 2) s = (n : Int) → m (q + 3) s = m0 (q + 3) s → (∀ j, i ≤ j → j < 1200 → m (q + 1) (1200 * s + j) = m0 (q + 1) (1200 * s + j)) → (∀ j, j < i → zwd m q s j = zhfv (zdg (zwd m0 q s) n) j) →
    (∀ (m' : zM) (l3 l4 : Option Value), zsP q (fun z => z = s) m0 m' → m' (q + 2) s = (n : Int) → m' (q + 3) s = m0 (q + 3) s → (∀ j, j < n → zwd m' q s j = zhfv (zdg (zwd m0 q s) n) j) → zW E cs A m' 91 [some (vr q), some (vi (s : Int)), some (vi (n : Int)), l3, l4] []) → zW E cs A m 2 [some (vr q), some (vi (s : Int)), some (vi (i : Int)), l3, l4] [] := by
  obtain ⟨⟨hO0, f0, f1, f2, f3, f4, f5, f6, f7, f8, f9, f10, f11, f12, f16, f24, f25⟩, ⟨g1, g2, g3⟩, ⟨g4, g5, g6, g7, g8, g9⟩, ⟨g10, g11, g12, g13⟩, g14, g15, g16⟩ := id hA
  intro r
  induction r with
  | zero =>
    intro i m l3 l4 hi h1 e1 e2 h3 h4 K
    obtain rfl : i = n := by omega
    refine z_iload_n X dX8_half_2 rfl ?_
    refine z_aload_n X dX8_half_3 rfl ?_
    refine z_getR X dX8_half_4 f_X8_14 rfl (by first | assumption | exact zbigA.o (by assumption)) (by assumption) ?_
    refine z_iload_n X dX8_half_7 rfl ?_
    refine z_iald X (s) dX8_half_8 (by omega) (by assumption) (by omega) (by omega) ?_
    refine z_icmp_ge X dX8_half_9 91 (by decide) (by omega) (by omega) (fun h9 => ?_) (fun h9 => ?_)
    · exact K m _ _ h1 e1 e2 h4
    · exact absurd h9 (by omega)
  | succ r ih =>
    intro i m l3 l4 hi h1 e1 e2 h3 h4 K
    have w1 := zwd_bd m0 q s i
    have w2 := zwd_bd m0 q s (i + 1)
    have e3 : m (q + 1) (1200 * s + i) % 4294967296 = zwd m0 q s i := by rw [h3 _ (by omega) (by omega)]; rfl
    refine z_iload_n X dX8_half_2 rfl ?_
    refine z_aload_n X dX8_half_3 rfl ?_
    refine z_getR X dX8_half_4 f_X8_14 rfl (by first | assumption | exact zbigA.o (by assumption)) (by assumption) ?_
    refine z_iload_n X dX8_half_7 rfl ?_
    refine z_iald X (s) dX8_half_8 (by omega) (by assumption) (by omega) (by omega) ?_
    refine z_icmp_ge X dX8_half_9 91 (by decide) (by omega) (by omega) (fun h9 => ?_) (fun h9 => ?_)
    · exact absurd h9 (by omega)
    · refine z_iload_n X dX8_half_12 rfl ?_
      refine z_iconst X dX8_half_13 ?_
      refine z_iadd X dX8_half_14 ?_
      refine z_aload_n X dX8_half_15 rfl ?_
      refine z_getR X dX8_half_16 f_X8_14 rfl (by first | assumption | exact zbigA.o (by assumption)) (by assumption) ?_
      refine z_iload_n X dX8_half_19 rfl ?_
      refine z_iald X (s) dX8_half_20 (by omega) (by assumption) (by omega) (by omega) ?_
      refine z_icmp_ge X dX8_half_21 46 (by decide) (by omega) (by omega) (fun h21 => ?_) (fun h21 => ?_)
      · refine z_lconst X dX8_half_46 0 rfl ?_
        refine z_lstore_n X dX8_half_47 (fun y => [_, _, _, some (vl y), _]) (by decide) (fun _ => rfl) (fun nx hnx => ?_)
        have f2 : nx = zdg (zwd m0 q s) n (i + 1) := by unfold zdg; split <;> omega
        have f3 : 0 ≤ nx ∧ nx < 4294967296 := by rw [f2]; exact zdg_in (fun i => zwd_bd m0 q s i) n (i + 1)
        refine z_aload_n X dX8_half_48 rfl ?_
        refine z_getR X dX8_half_49 f_X8_8 rfl (by first | assumption | exact zbigA.o (by assumption)) (by assumption) ?_
        refine z_sipush X dX8_half_52 (by decide) ?_
        refine z_iload_n X dX8_half_55 rfl ?_
        refine z_imul X dX8_half_56 ?_
        refine z_iload_n X dX8_half_57 rfl ?_
        refine z_iadd X dX8_half_58 ?_
        refine z_aload_n X dX8_half_59 rfl ?_
        refine z_getR X dX8_half_60 f_X8_8 rfl (by first | assumption | exact zbigA.o (by assumption)) (by assumption) ?_
        refine z_sipush X dX8_half_63 (by decide) ?_
        refine z_iload_n X dX8_half_66 rfl ?_
        refine z_imul X dX8_half_67 ?_
        refine z_iload_n X dX8_half_68 rfl ?_
        refine z_iadd X dX8_half_69 ?_
        refine z_iald X (1200 * s + i) dX8_half_70 (by omega) (by assumption) (by omega) (by omega) ?_
        refine z_i2lm X dX8_half_71 dX8_half_72 q_X8_64 dX8_half_75 ?_
        refine z_iconst X dX8_half_76 ?_
        refine z_lushr X dX8_half_77 1 2 rfl (by decide) (by decide) (by omega) ?_
        refine z_lload_n X dX8_half_78 rfl ?_
        refine z_bipush X dX8_half_79 (by decide) ?_
        refine z_lshl X dX8_half_81 31 2147483648 rfl (by decide) (by decide) ?_
        refine z_lor2 X dX8_half_82 31 nx (by omega) rfl (by omega) (by omega) ?_
        refine z_l2i X dX8_half_83 ?_
        refine z_iast X (1200 * s + i) dX8_half_84 (by omega) (by assumption) (by omega) (by omega) ?_
        refine z_iinc X dX8_half_85 rfl (fun y => [_, _, some (vi y), _, _]) (fun _ => rfl) (fun y hy => ?_)
        obtain rfl : y = ((i + 1 : Nat) : Int) := by omega
        refine z_goto X dX8_half_88 2 (by decide) ?_
        refine ih (i + 1) _ _ _ (by omega) (h1.w1 (i := i) rfl (by omega)) (by rw [zms_nq _ _ _ _ _ (by omega)]; exact e1) (by rw [zms_nq _ _ _ _ _ (by omega)]; exact e2) (fun j hj hj2 => by rw [zms_nk _ _ _ _ _ (by omega)]; exact h3 j (by omega) hj2) (fun j hj => ?_) K
        by_cases hji : j = i
        · subst hji
          show zms m (q + 1) (1200 * s + j) _ (q + 1) (1200 * s + j) % 4294967296 = _
          unfold zhfv
          have : zdg (zwd m0 q s) n j = zwd m0 q s j := by unfold zdg; rw [if_pos (by omega)]
          rw [zms_same, ← f2, e3, this]
        · rw [← h4 j (by omega)]
          unfold zwd
          rw [zms_nk _ _ _ _ _ (by omega)]
      · refine z_aload_n X dX8_half_24 rfl ?_
        refine z_getR X dX8_half_25 f_X8_8 rfl (by first | assumption | exact zbigA.o (by assumption)) (by assumption) ?_
        refine z_sipush X dX8_half_28 (by decide) ?_
        refine z_iload_n X dX8_half_31 rfl ?_
        refine z_imul X dX8_half_32 ?_
        refine z_iload_n X dX8_half_33 rfl ?_
        refine z_iadd X dX8_half_34 ?_
        refine z_iconst X dX8_half_35 ?_
        refine z_iadd X dX8_half_36 ?_
        have e4 : m (q + 1) (1200 * s + (i + 1)) % 4294967296 = zwd m0 q s (i + 1) := by rw [h3 _ (by omega) (by omega)]; rfl
        refine z_iald X (1200 * s + (i + 1)) dX8_half_37 (by omega) (by assumption) (by omega) (by omega) ?_
        refine z_i2lm X dX8_half_38 dX8_half_39 q_X8_64 dX8_half_42 ?_
        refine z_goto X dX8_half_43 47 (by decide) ?_
        refine z_lstore_n X dX8_half_47 (fun y => [_, _, _, some (vl y), _]) (by decide) (fun _ => rfl) (fun nx hnx => ?_)
        have f2 : nx = zdg (zwd m0 q s) n (i + 1) := by unfold zdg; split <;> omega
        have f3 : 0 ≤ nx ∧ nx < 4294967296 := by rw [f2]; exact zdg_in (fun i => zwd_bd m0 q s i) n (i + 1)
        refine z_aload_n X dX8_half_48 rfl ?_
        refine z_getR X dX8_half_49 f_X8_8 rfl (by first | assumption | exact zbigA.o (by assumption)) (by assumption) ?_
        refine z_sipush X dX8_half_52 (by decide) ?_
        refine z_iload_n X dX8_half_55 rfl ?_
        refine z_imul X dX8_half_56 ?_
        refine z_iload_n X dX8_half_57 rfl ?_
        refine z_iadd X dX8_half_58 ?_
        refine z_aload_n X dX8_half_59 rfl ?_
        refine z_getR X dX8_half_60 f_X8_8 rfl (by first | assumption | exact zbigA.o (by assumption)) (by assumption) ?_
        refine z_sipush X dX8_half_63 (by decide) ?_
        refine z_iload_n X dX8_half_66 rfl ?_
        refine z_imul X dX8_half_67 ?_
        refine z_iload_n X dX8_half_68 rfl ?_
        refine z_iadd X dX8_half_69 ?_
        refine z_iald X (1200 * s + i) dX8_half_70 (by omega) (by assumption) (by omega) (by omega) ?_
        refine z_i2lm X dX8_half_71 dX8_half_72 q_X8_64 dX8_half_75 ?_
        refine z_iconst X dX8_half_76 ?_
        refine z_lushr X dX8_half_77 1 2 rfl (by decide) (by decide) (by omega) ?_
        refine z_lload_n X dX8_half_78 rfl ?_
        refine z_bipush X dX8_half_79 (by decide) ?_
        refine z_lshl X dX8_half_81 31 2147483648 rfl (by decide) (by decide) ?_
        refine z_lor2 X dX8_half_82 31 nx (by omega) rfl (by omega) (by omega) ?_
        refine z_l2i X dX8_half_83 ?_
        refine z_iast X (1200 * s + i) dX8_half_84 (by omega) (by assumption) (by omega) (by omega) ?_
        refine z_iinc X dX8_half_85 rfl (fun y => [_, _, some (vi y), _, _]) (fun _ => rfl) (fun y hy => ?_)
        obtain rfl : y = ((i + 1 : Nat) : Int) := by omega
        refine z_goto X dX8_half_88 2 (by decide) ?_
        refine ih (i + 1) _ _ _ (by omega) (h1.w1 (i := i) rfl (by omega)) (by rw [zms_nq _ _ _ _ _ (by omega)]; exact e1) (by rw [zms_nq _ _ _ _ _ (by omega)]; exact e2) (fun j hj hj2 => by rw [zms_nk _ _ _ _ _ (by omega)]; exact h3 j (by omega) hj2) (fun j hj => ?_) K
        by_cases hji : j = i
        · subst hji
          show zms m (q + 1) (1200 * s + j) _ (q + 1) (1200 * s + j) % 4294967296 = _
          unfold zhfv
          have : zdg (zwd m0 q s) n j = zwd m0 q s j := by unfold zdg; rw [if_pos (by omega)]
          rw [zms_same, ← f2, e3, this]
        · rw [← h4 j (by omega)]
          unfold zwd
          rw [zms_nk _ _ _ _ _ (by omega)]
theorem c_X8_half (G : zG) {A : zA} {m : zM} {q s : Nat} {si v : Int} (hA : zmodA A q) (hsi : si = (s : Int)) (hs : s < 60) (hv : zsl m q s v) (hv0 : 0 ≤ v) :
    zMet G k_X8_half [vr q, vi si] A m (zpv A (fun m' => zsl m' q s (v / 2) ∧ zsP q (fun z => z = s) m m')) := by
  subst hsi
  obtain ⟨⟨hO0, f0, f1, f2, f3, f4, f5, f6, f7, f8, f9, f10, f11, f12, f16, f24, f25⟩, ⟨g1, g2, g3⟩, ⟨g4, g5, g6, g7, g8, g9⟩, ⟨g10, g11, g12, g13⟩, g14, g15, g16⟩ := id hA
  obtain ⟨n, ⟨hn, hn2⟩, tn, vn, sn⟩ := hv
  have hsum := zhf_sum (f := zdg (zwd m q s) n) (zdg_in (fun i => zwd_bd m q s i) n) n
  have hg : zdg (zwd m q s) n n = 0 := by unfold zdg; rw [if_neg (by omega)]
  rw [hg, zsum_dg (by omega), ← vn, show (0 : Int) % 2 = 0 from rfl, Int.zero_mul] at hsum
  refine zMet.of RX8 rfl (by decide +kernel) (Nat.le_of_ble_eq_true rfl) [some (vr q), some (vi (s : Int)), none, none, none] rfl (fun E hG X hQ hNm => ?_)
  subst hG
  refine z_iconst X dX8_half_0 ?_
  refine z_istore_n X dX8_half_1 (fun y => [_, _, some (vi y), _, _]) (by decide) (fun _ => rfl) (fun x2_1 hx2_1 => ?_)
  subst hx2_1
  refine zl8_half X hA hs hn hn2 n 0 m none none (by omega) zsP.rfl' hn rfl (fun _ _ _ => rfl) (fun j hj => absurd hj (by omega)) (fun m' l3 l4 h1 h2 h3 h4 => ?_)
  have e5 : zsum 4294967296 (zwd m' q s) n = zsum 4294967296 (zhfv (zdg (zwd m q s) n)) n := zsum_congr h4
  refine z_aload_n X dX8_half_91 rfl ?_
  refine z_iload_n X dX8_half_92 rfl ?_
  refine z_callVv X (As := [_]) dX8_half_93 m_X8_trim i_X8_trim l_X8_66 (c_X8_trim (zg E) (n := n) (v := v / 2) hA rfl hs h2 hn2 (by rw [e5]; omega) (by rw [h3]; omega)) (by first | assumption | exact zbigA.o (by assumption)) rfl rfl rfl (Nat.le_of_ble_eq_true rfl) ⟨Nat.le_of_ble_eq_true rfl, Nat.le_of_ble_eq_true rfl⟩ ⟨Nat.le_of_ble_eq_true rfl, Nat.le_of_ble_eq_true rfl⟩ ⟨rfl, rfl⟩ (fun m5 hm5 => ?_)
  refine z_return (st := []) X rfl hQ dX8_half_96 ⟨rfl, rfl, ?_⟩
  exact ⟨hm5.1, h1.t hm5.2⟩

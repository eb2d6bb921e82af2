/-! The model: multiply -/
theorem zl8_zero {E : zCx} {rm : Room} {cs : Nat × Nat} {A : zA} (X : zOK E cX8_multiply RX8 16 none rm) {q t e : Nat} {x y : Value} (hA : zmodA A q) (ht : t < 60) {m0 : zM} (he : e ≤ 1200) : ∀ (r i : Nat) (m : zM), i + r = e → zsP q (fun z => z = t) m0 m → (∀ j, j < i → zwd m q t j = 0) →
    (∀ (m' : zM), zsP q (fun z => z = t) m0 m' → (∀ j, j < e → zwd m' q t j = 0) → zW E cs A m' 45 [some (vr q), some x, some y, some (vi (t : Int)), some (vi (e : Int)), some (vi (e : Int)), none, none, none, none, none, none, none, none, none, none] []) → zW E cs A m 18 [some (vr q), some x, some y, some (vi (t : Int)), some (vi (e : Int)), some (vi (i : Int)), none, none, none, none, none, none, none, none, none, none] [] := by
  obtain ⟨⟨hO0, f0, f1, f2, f3, f4, f5, f6, f7, f8, f9, f10, f11, f12, f16, f24, f25⟩, ⟨g1, g2, g3⟩, ⟨g4, g5, g6, g7, g8, g9⟩, ⟨g10, g11, g12, g13⟩, g14, g15, g16⟩ := id hA
  intro r
  induction r with
  | zero =>
    intro i m hi h1 h2 K
    obtain rfl : i = e := by omega
    refine z_iload X dX8_multiply_18 rfl ?_
    refine z_iload X dX8_multiply_20 rfl ?_
    refine z_icmp_ge X dX8_multiply_22 45 (by decide) (by omega) (by omega) (fun h22 => ?_) (fun h22 => ?_)
    · exact K m h1 h2
    · exact absurd h22 (by omega)
  | succ r ih =>
    intro i m hi h1 h2 K
    refine z_iload X dX8_multiply_18 rfl ?_
    refine z_iload X dX8_multiply_20 rfl ?_
    refine z_icmp_ge X dX8_multiply_22 45 (by decide) (by omega) (by omega) (fun h22 => ?_) (fun h22 => ?_)
    · exact absurd h22 (by omega)
    · refine z_aload_n X dX8_multiply_25 rfl ?_
      refine z_getR X dX8_multiply_26 f_X8_8 rfl (by first | assumption | exact zbigA.o (by assumption)) (by assumption) ?_
      refine z_sipush X dX8_multiply_29 (by decide) ?_
      refine z_iload_n X dX8_multiply_32 rfl ?_
      refine z_imul X dX8_multiply_33 ?_
      refine z_iload X dX8_multiply_34 rfl ?_
      refine z_iadd X dX8_multiply_36 ?_
      refine z_iconst X dX8_multiply_37 ?_
      refine z_iast X (1200 * t + i) dX8_multiply_38 (by omega) (by assumption) (by omega) (by omega) ?_
      refine z_iinc X dX8_multiply_39 rfl (fun y => [_, _, _, _, _, some (vi y), _, _, _, _, _, _, _, _, _, _]) (fun _ => rfl) (fun z hz => ?_)
      obtain rfl : z = ((i + 1 : Nat) : Int) := by omega
      refine z_goto X dX8_multiply_42 18 (by decide) ?_
      refine ih (i + 1) _ (by omega) (h1.w1 (i := i) rfl (by omega)) (fun j hj => ?_) K
      unfold zwd
      by_cases hji : j = i
      · rw [hji, zms_same]; rfl
      · rw [zms_nk _ _ _ _ _ (by omega)]; exact h2 j (by omega)
/-- a row of the product: x is the word of a at i -/
theorem zl8_row {E : zCx} {rm : Room} {cs : Nat × Nat} {A : zA} (X : zOK E cX8_multiply RX8 16 none rm) {q b t k e i : Nat} {av : Value} {x : Int} (hA : zmodA A q) (hb : b < 60) (ht : t < 60) (hne : b ≠ t) {m0 : zM} (hk : m0 (q + 2) b = (k : Int)) (hk2 : k ≤ 1200) (he : e ≤ 1200) (hik : i + k < e) (hx : 0 ≤ x ∧ x < 4294967296) {S : Int} : ∀ (r j : Nat) (m : zM) (c : Int) (l11 l12 l13 l14 l15 : Option Value), j + r = k → zsP q (fun z => z = t) m0 m → (∀ p, i + k ≤ p → zwd m q t p = zwd m0 q t p) → 0 ≤ c → c < 4294967296 → zsum 4294967296 (zwd m q t) e + c * 4294967296 ^ (i + j) = S + x * 4294967296 ^ i * zsum 4294967296 (zwd m0 q b) j →
    (∀ (m' : zM) (c : Int) (l11 l12 l13 l14 l15 : Option Value), zsP q (fun z => z = t) m0 m' → (∀ p, i + k ≤ p → zwd m' q t p = zwd m0 q t p) → 0 ≤ c → c < 4294967296 → zsum 4294967296 (zwd m' q t) e + c * 4294967296 ^ (i + k) = S + x * 4294967296 ^ i * zsum 4294967296 (zwd m0 q b) k → zW E cs A m' 185 [some (vr q), some av, some (vi (b : Int)), some (vi (t : Int)), some (vi (e : Int)), some (vi (i : Int)), some (vl x), none, some (vl c), none, some (vi (k : Int)), l11, l12, l13, l14, l15] []) → zW E cs A m 85 [some (vr q), some av, some (vi (b : Int)), some (vi (t : Int)), some (vi (e : Int)), some (vi (i : Int)), some (vl x), none, some (vl c), none, some (vi (j : Int)), l11, l12, l13, l14, l15] [] := by
  obtain ⟨⟨hO0, f0, f1, f2, f3, f4, f5, f6, f7, f8, f9, f10, f11, f12, f16, f24, f25⟩, ⟨g1, g2, g3⟩, ⟨g4, g5, g6, g7, g8, g9⟩, ⟨g10, g11, g12, g13⟩, g14, g15, g16⟩ := id hA
  intro r
  induction r with
  | zero =>
    intro j m c l11 l12 l13 l14 l15 hj h1 h3 hc0 hc1 hsum K
    obtain rfl : j = k := by omega
    have e1 := (h1.2 b hne).1.trans hk
    refine z_iload X dX8_multiply_85 rfl ?_
    refine z_aload_n X dX8_multiply_87 rfl ?_
    refine z_getR X dX8_multiply_88 f_X8_14 rfl (by first | assumption | exact zbigA.o (by assumption)) (by assumption) ?_
    refine z_iload_n X dX8_multiply_91 rfl ?_
    refine z_iald X (b) dX8_multiply_92 (by omega) (by assumption) (by omega) (by omega) ?_
    refine z_icmp_ge X dX8_multiply_93 185 (by decide) (by omega) (by omega) (fun h93 => ?_) (fun h93 => ?_)
    · exact K m c _ _ _ _ _ h1 h3 hc0 hc1 hsum
    · exact absurd h93 (by omega)
  | succ r ih =>
    intro j m c l11 l12 l13 l14 l15 hj h1 h3 hc0 hc1 hsum K
    have e1 := (h1.2 b hne).1.trans hk
    have w1 := zwd_bd m0 q b j
    have w2 := zwd_bd m q t (i + j)
    have e2 : m (q + 1) (1200 * b + j) % 4294967296 = zwd m0 q b j := by rw [(h1.2 b hne).2.2 j (by omega)]; rfl
    have e3 : m (q + 1) (1200 * t + (i + j)) % 4294967296 = zwd m q t (i + j) := rfl
    have e5 := zmul_le hx.1 (show x ≤ 4294967295 by omega) w1.1 (show zwd m0 q b j ≤ 4294967295 by omega)
    refine z_iload X dX8_multiply_85 rfl ?_
    refine z_aload_n X dX8_multiply_87 rfl ?_
    refine z_getR X dX8_multiply_88 f_X8_14 rfl (by first | assumption | exact zbigA.o (by assumption)) (by assumption) ?_
    refine z_iload_n X dX8_multiply_91 rfl ?_
    refine z_iald X (b) dX8_multiply_92 (by omega) (by assumption) (by omega) (by omega) ?_
    refine z_icmp_ge X dX8_multiply_93 185 (by decide) (by omega) (by omega) (fun h93 => ?_) (fun h93 => ?_)
    · exact absurd h93 (by omega)
    · refine z_sipush X dX8_multiply_96 (by decide) ?_
      refine z_iload_n X dX8_multiply_99 rfl ?_
      refine z_imul X dX8_multiply_100 ?_
      refine z_iload X dX8_multiply_101 rfl ?_
      refine z_iadd X dX8_multiply_103 ?_
      refine z_iload X dX8_multiply_104 rfl ?_
      refine z_iadd X dX8_multiply_106 ?_
      refine z_istore X dX8_multiply_107 (fun y => [_, _, _, _, _, _, _, _, _, _, _, some (vi y), _, _, _, _]) (by decide) (fun _ => rfl) (fun at' hat => ?_)
      obtain rfl : at' = ((1200 * t + (i + j) : Nat) : Int) := by omega
      refine z_lload X dX8_multiply_109 rfl ?_
      refine z_aload_n X dX8_multiply_111 rfl ?_
      refine z_getR X dX8_multiply_112 f_X8_8 rfl (by first | assumption | exact zbigA.o (by assumption)) (by assumption) ?_
      refine z_sipush X dX8_multiply_115 (by decide) ?_
      refine z_iload_n X dX8_multiply_118 rfl ?_
      refine z_imul X dX8_multiply_119 ?_
      refine z_iload X dX8_multiply_120 rfl ?_
      refine z_iadd X dX8_multiply_122 ?_
      refine z_iald X (1200 * b + j) dX8_multiply_123 (by omega) (by assumption) (by omega) (by omega) ?_
      refine z_i2lm X dX8_multiply_124 dX8_multiply_125 q_X8_64 dX8_multiply_128 ?_
      rw [e2]
      refine z_lmul X dX8_multiply_129 ?_
      refine z_lstore X dX8_multiply_130 (fun y => [_, _, _, _, _, _, _, _, _, _, _, _, some (vl y), _, _, _]) (by decide) (fun _ => rfl) (fun v hv => ?_)
      refine z_lload X dX8_multiply_132 rfl ?_
      refine z_ldc2 X dX8_multiply_134 q_X8_64 (4294967295) (by decide) ?_
      refine z_land X dX8_multiply_137 32 (by omega) (by decide) 4294967296 (by decide) ?_
      refine z_aload_n X dX8_multiply_138 rfl ?_
      refine z_getR X dX8_multiply_139 f_X8_8 rfl (by first | assumption | exact zbigA.o (by assumption)) (by assumption) ?_
      refine z_iload X dX8_multiply_142 rfl ?_
      refine z_iald X (1200 * t + (i + j)) dX8_multiply_144 (by omega) (by assumption) (by omega) (by omega) ?_
      refine z_i2lm X dX8_multiply_145 dX8_multiply_146 q_X8_64 dX8_multiply_149 ?_
      refine z_ladd X dX8_multiply_150 ?_
      refine z_lload X dX8_multiply_151 rfl ?_
      refine z_ladd X dX8_multiply_153 ?_
      refine z_lstore X dX8_multiply_154 (fun y => [_, _, _, _, _, _, _, _, _, _, _, _, _, _, some (vl y), _]) (by decide) (fun _ => rfl) (fun lo hlo => ?_)
      refine z_aload_n X dX8_multiply_156 rfl ?_
      refine z_getR X dX8_multiply_157 f_X8_8 rfl (by first | assumption | exact zbigA.o (by assumption)) (by assumption) ?_
      refine z_iload X dX8_multiply_160 rfl ?_
      refine z_lload X dX8_multiply_162 rfl ?_
      refine z_l2i X dX8_multiply_164 ?_
      refine z_iast X (1200 * t + (i + j)) dX8_multiply_165 (by omega) (by assumption) (by omega) (by omega) ?_
      refine z_lload X dX8_multiply_166 rfl ?_
      refine z_bipush X dX8_multiply_168 (by decide) ?_
      refine z_lushr X dX8_multiply_170 32 4294967296 rfl (by decide) (by decide) (by omega) ?_
      refine z_lload X dX8_multiply_171 rfl ?_
      refine z_bipush X dX8_multiply_173 (by decide) ?_
      refine z_lushr X dX8_multiply_175 32 4294967296 rfl (by decide) (by decide) (by omega) ?_
      refine z_ladd X dX8_multiply_176 ?_
      refine z_lstore X dX8_multiply_177 (fun y => [_, _, _, _, _, _, _, _, some (vl y), _, _, _, _, _, _, _]) (by decide) (fun _ => rfl) (fun c2 hc2 => ?_)
      refine z_iinc X dX8_multiply_179 rfl (fun y => [_, _, _, _, _, _, _, _, _, _, some (vi y), _, _, _, _, _]) (fun _ => rfl) (fun y hy => ?_)
      obtain rfl : y = ((j + 1 : Nat) : Int) := by omega
      refine z_goto X dX8_multiply_182 85 (by decide) ?_
      have e7 := zsum_upd (b := 4294967296) (f := zwd m q t) (g := zwd (zms m (q + 1) (1200 * t + (i + j)) lo) q t) (p := i + j) (fun p hp => by unfold zwd; rw [zms_nk _ _ _ _ _ (by omega)]) (show i + j < e by omega)
      have e9 : zwd (zms m (q + 1) (1200 * t + (i + j)) lo) q t (i + j) = lo % 4294967296 := by unfold zwd; rw [zms_same]
      rw [e9] at e7
      have e8 : x * zwd m0 q b j + zwd m q t (i + j) + c = lo % 4294967296 + c2 * 4294967296 := by omega
      refine ih (j + 1) _ c2 _ _ _ _ _ (by omega) (h1.w1 (i := i + j) rfl (by omega)) (fun p hp => ?_) (by omega) (by omega) ?_ K
      · rw [← h3 p hp]; unfold zwd; rw [zms_nk _ _ _ _ _ (by omega)]
      · rw [e7, zsum_s, ← Nat.add_assoc, Int.pow_succ]
        rw [Int.pow_add] at hsum ⊢
        grind
theorem zl8_rows {E : zCx} {rm : Room} {cs : Nat × Nat} {A : zA} (X : zOK E cX8_multiply RX8 16 none rm) {q a b t n k e : Nat} (hA : zmodA A q) (ha : a < 60) (hb : b < 60) (ht : t < 60) (hna : a ≠ t) (hne : b ≠ t) {m0 : zM} (hn : m0 (q + 2) a = (n : Int)) (hk : m0 (q + 2) b = (k : Int)) (hn2 : n ≤ 1200) (hk2 : k ≤ 1200) (he : e ≤ 1200) (hnk : n + k = e) : ∀ (r i : Nat) (m : zM) (l6 l7 l8 l9 l10 l11 l12 l13 l14 l15 : Option Value), i + r = n → zsP q (fun z => z = t) m0 m → (∀ p, i + k ≤ p → p < e → zwd m q t p = 0) → zsum 4294967296 (zwd m q t) e = zsum 4294967296 (zwd m0 q a) i * zsum 4294967296 (zwd m0 q b) k →
    (∀ (m' : zM) (l5 l6 l7 l8 l9 l10 l11 l12 l13 l14 l15 : Option Value), zsP q (fun z => z = t) m0 m' → zsum 4294967296 (zwd m' q t) e = zsum 4294967296 (zwd m0 q a) n * zsum 4294967296 (zwd m0 q b) k → zW E cs A m' 214 [some (vr q), some (vi (a : Int)), some (vi (b : Int)), some (vi (t : Int)), some (vi (e : Int)), l5, l6, l7, l8, l9, l10, l11, l12, l13, l14, l15] []) → zW E cs A m 48 [some (vr q), some (vi (a : Int)), some (vi (b : Int)), some (vi (t : Int)), some (vi (e : Int)), some (vi (i : Int)), l6, l7, l8, l9, l10, l11, l12, l13, l14, l15] [] := by
  obtain ⟨⟨hO0, f0, f1, f2, f3, f4, f5, f6, f7, f8, f9, f10, f11, f12, f16, f24, f25⟩, ⟨g1, g2, g3⟩, ⟨g4, g5, g6, g7, g8, g9⟩, ⟨g10, g11, g12, g13⟩, g14, g15, g16⟩ := id hA
  intro r
  induction r with
  | zero =>
    intro i m l6 l7 l8 l9 l10 l11 l12 l13 l14 l15 hi h1 h3 hsum K
    obtain rfl : i = n := by omega
    have e1 := (h1.2 a hna).1.trans hn
    refine z_iload X dX8_multiply_48 rfl ?_
    refine z_aload_n X dX8_multiply_50 rfl ?_
    refine z_getR X dX8_multiply_51 f_X8_14 rfl (by first | assumption | exact zbigA.o (by assumption)) (by assumption) ?_
    refine z_iload_n X dX8_multiply_54 rfl ?_
    refine z_iald X (a) dX8_multiply_55 (by omega) (by assumption) (by omega) (by omega) ?_
    refine z_icmp_ge X dX8_multiply_56 214 (by decide) (by omega) (by omega) (fun h56 => ?_) (fun h56 => ?_)
    · exact K m _ _ _ _ _ _ _ _ _ _ _ h1 hsum
    · exact absurd h56 (by omega)
  | succ r ih =>
    intro i m l6 l7 l8 l9 l10 l11 l12 l13 l14 l15 hi h1 h3 hsum K
    have e1 := (h1.2 a hna).1.trans hn
    have eb := (h1.2 b hne).1.trans hk
    have w1 := zwd_bd m0 q a i
    have e2 : m (q + 1) (1200 * a + i) % 4294967296 = zwd m0 q a i := by rw [(h1.2 a hna).2.2 i (by omega)]; rfl
    have e6 : zsum 4294967296 (zwd m q b) k = zsum 4294967296 (zwd m0 q b) k := zsum_congr (fun p hp => (h1.2 b hne).wd (by omega))
    refine z_iload X dX8_multiply_48 rfl ?_
    refine z_aload_n X dX8_multiply_50 rfl ?_
    refine z_getR X dX8_multiply_51 f_X8_14 rfl (by first | assumption | exact zbigA.o (by assumption)) (by assumption) ?_
    refine z_iload_n X dX8_multiply_54 rfl ?_
    refine z_iald X (a) dX8_multiply_55 (by omega) (by assumption) (by omega) (by omega) ?_
    refine z_icmp_ge X dX8_multiply_56 214 (by decide) (by omega) (by omega) (fun h56 => ?_) (fun h56 => ?_)
    · exact absurd h56 (by omega)
    · refine z_aload_n X dX8_multiply_59 rfl ?_
      refine z_getR X dX8_multiply_60 f_X8_8 rfl (by first | assumption | exact zbigA.o (by assumption)) (by assumption) ?_
      refine z_sipush X dX8_multiply_63 (by decide) ?_
      refine z_iload_n X dX8_multiply_66 rfl ?_
      refine z_imul X dX8_multiply_67 ?_
      refine z_iload X dX8_multiply_68 rfl ?_
      refine z_iadd X dX8_multiply_70 ?_
      refine z_iald X (1200 * a + i) dX8_multiply_71 (by omega) (by assumption) (by omega) (by omega) ?_
      refine z_i2lm X dX8_multiply_72 dX8_multiply_73 q_X8_64 dX8_multiply_76 ?_
      refine z_lstore X dX8_multiply_77 (fun y => [_, _, _, _, _, _, some (vl y), _, _, _, _, _, _, _, _, _]) (by decide) (fun _ => rfl) (fun x hx => ?_)
      refine z_lconst X dX8_multiply_79 0 rfl ?_
      refine z_lstore X dX8_multiply_80 (fun y => [_, _, _, _, _, _, _, _, some (vl y), _, _, _, _, _, _, _]) (by decide) (fun _ => rfl) (fun x8_80 hx8_80 => ?_)
      subst hx8_80
      refine z_iconst X dX8_multiply_82 ?_
      refine z_istore X dX8_multiply_83 (fun y => [_, _, _, _, _, _, _, _, _, _, some (vi y), _, _, _, _, _]) (by decide) (fun _ => rfl) (fun x10_83 hx10_83 => ?_)
      subst hx10_83
      refine zl8_row X hA hb ht hne (m0 := m) eb hk2 he (i := i) (by omega) (by omega) k 0 m 0 _ _ _ _ _ (by omega) zsP.rfl' (fun _ _ => rfl) (by omega) (by omega) (S := zsum 4294967296 (zwd m q t) e) (by simp [zsum]) (fun m' c l11 l12 l13 l14 l15 g1' g3' gc0 gc1 gs => ?_)
      have e4 := (g1'.2 b hne).1.trans eb
      have e5 : zwd m' q t (i + k) = 0 := (g3' _ (by omega)).trans (h3 _ (by omega) (by omega))
      refine z_aload_n X dX8_multiply_185 rfl ?_
      refine z_getR X dX8_multiply_186 f_X8_8 rfl (by first | assumption | exact zbigA.o (by assumption)) (by assumption) ?_
      refine z_sipush X dX8_multiply_189 (by decide) ?_
      refine z_iload_n X dX8_multiply_192 rfl ?_
      refine z_imul X dX8_multiply_193 ?_
      refine z_iload X dX8_multiply_194 rfl ?_
      refine z_iadd X dX8_multiply_196 ?_
      refine z_aload_n X dX8_multiply_197 rfl ?_
      refine z_getR X dX8_multiply_198 f_X8_14 rfl (by first | assumption | exact zbigA.o (by assumption)) (by assumption) ?_
      refine z_iload_n X dX8_multiply_201 rfl ?_
      refine z_iald X (b) dX8_multiply_202 (by omega) (by assumption) (by omega) (by omega) ?_
      refine z_iadd X dX8_multiply_203 ?_
      refine z_lload X dX8_multiply_204 rfl ?_
      refine z_l2i X dX8_multiply_206 ?_
      refine z_iast X (1200 * t + (i + k)) dX8_multiply_207 (by omega) (by assumption) (by omega) (by omega) ?_
      refine z_iinc X dX8_multiply_208 rfl (fun y => [_, _, _, _, _, some (vi y), _, _, _, _, _, _, _, _, _, _]) (fun _ => rfl) (fun y hy => ?_)
      obtain rfl : y = ((i + 1 : Nat) : Int) := by omega
      refine z_goto X dX8_multiply_211 48 (by decide) ?_
      have e7 := zsum_upd (b := 4294967296) (f := zwd m' q t) (g := zwd (zms m' (q + 1) (1200 * t + (i + k)) c) q t) (p := i + k) (fun p hp => by unfold zwd; rw [zms_nk _ _ _ _ _ (by omega)]) (show i + k < e by omega)
      have e9 : zwd (zms m' (q + 1) (1200 * t + (i + k)) c) q t (i + k) = c := by unfold zwd; rw [zms_same]; omega
      rw [e9, e5] at e7
      refine ih (i + 1) _ _ _ _ _ _ _ _ _ _ _ (by omega) ((h1.t g1').w1 (i := i + k) rfl (by omega)) (fun p hp1 hp2 => ?_) ?_ K
      · have e10 : zwd (zms m' (q + 1) (1200 * t + (i + k)) c) q t p = zwd m' q t p := by unfold zwd; rw [zms_nk _ _ _ _ _ (by omega)]
        rw [e10, g3' p (by omega)]
        exact h3 p (by omega) hp2
      · rw [hsum, e6, hx, e2] at gs
        rw [e7, zsum_s]
        grind
theorem zlen32 {f : Nat → Int} {n k : Nat} (h : ∀ i, i < n → 0 ≤ f i ∧ f i < 4294967296) (ht : n ≠ 0 → f (n - 1) ≠ 0) (hs : zsum 4294967296 f n < 4294967296 ^ k) : n ≤ k := by
  rcases Nat.lt_or_ge k n with hk | hk
  · exfalso
    obtain ⟨d, rfl⟩ : ∃ d, n = d + 1 := ⟨n - 1, by omega⟩
    have h1 := zsum_top (b := 4294967296) (by omega) (fun i hi => (h i hi).1) (ht (by omega))
    have h2 : (4294967296 : Int) ^ k ≤ 4294967296 ^ d := zpow_le (by omega) (by omega)
    omega
  · exact hk
theorem c_X8_multiply (G : zG) {A : zA} {m : zM} {q a b t x y : Nat} {ai bi ti v w : Int} (hA : zmodA A q) (hai : ai = (a : Int)) (hbi : bi = (b : Int)) (hti : ti = (t : Int)) (ha : a < 60) (hb : b < 60) (ht : t < 60) (hna : a ≠ t) (hne : b ≠ t) (hv : zsl m q a v) (hw : zsl m q b w) (bv : zle v x) (bw : zle w y) (hxy : x + y ≤ 38000) :
    zMet G k_X8_multiply [vr q, vi ai, vi bi, vi ti] A m (zpv A (fun m' => zsl m' q t (v * w) ∧ zsP q (fun z => z = t) m m')) := by
  subst hai hbi hti
  obtain ⟨⟨hO0, f0, f1, f2, f3, f4, f5, f6, f7, f8, f9, f10, f11, f12, f16, f24, f25⟩, ⟨g1, g2, g3⟩, ⟨g4, g5, g6, g7, g8, g9⟩, ⟨g10, g11, g12, g13⟩, g14, g15, g16⟩ := id hA
  obtain ⟨n, ⟨hn, hn2⟩, tn, vn, sn⟩ := hv
  obtain ⟨k, ⟨hk, hk2⟩, tk, vk, sk⟩ := hw
  have ln : n ≤ x / 32 + 1 := zlen32 (fun i _ => zwd_bd m q a i) tn (by rw [← vn]; exact bv.lt32 (by omega))
  have lk : k ≤ y / 32 + 1 := zlen32 (fun i _ => zwd_bd m q b i) tk (by rw [← vk]; exact bw.lt32 (by omega))
  refine zMet.of RX8 rfl (by decide +kernel) (Nat.le_of_ble_eq_true rfl) [some (vr q), some (vi (a : Int)), some (vi (b : Int)), some (vi (t : Int)), none, none, none, none, none, none, none, none, none, none, none, none] rfl (fun E hG X hQ hNm => ?_)
  subst hG
  refine z_aload_n X dX8_multiply_0 rfl ?_
  refine z_getR X dX8_multiply_1 f_X8_14 rfl (by first | assumption | exact zbigA.o (by assumption)) (by assumption) ?_
  refine z_iload_n X dX8_multiply_4 rfl ?_
  refine z_iald X (a) dX8_multiply_5 (by omega) (by assumption) (by omega) (by omega) ?_
  refine z_aload_n X dX8_multiply_6 rfl ?_
  refine z_getR X dX8_multiply_7 f_X8_14 rfl (by first | assumption | exact zbigA.o (by assumption)) (by assumption) ?_
  refine z_iload_n X dX8_multiply_10 rfl ?_
  refine z_iald X (b) dX8_multiply_11 (by omega) (by assumption) (by omega) (by omega) ?_
  refine z_iadd X dX8_multiply_12 ?_
  refine z_istore X dX8_multiply_13 (fun y => [_, _, _, _, some (vi y), _, _, _, _, _, _, _, _, _, _, _]) (by decide) (fun _ => rfl) (fun e he => ?_)
  refine z_iconst X dX8_multiply_15 ?_
  refine z_istore X dX8_multiply_16 (fun y => [_, _, _, _, _, some (vi y), _, _, _, _, _, _, _, _, _, _]) (by decide) (fun _ => rfl) (fun x5_16 hx5_16 => ?_)
  subst hx5_16
  obtain rfl : e = ((n + k : Nat) : Int) := by omega
  refine zl8_zero X hA ht (e := n + k) (by omega) (n + k) 0 m (by omega) zsP.rfl' (fun j hj => absurd hj (by omega)) (fun m2 g1' g2' => ?_)
  have en := (g1'.2 a hna).1.trans hn
  have ek := (g1'.2 b hne).1.trans hk
  have ex : zsum 4294967296 (zwd m2 q a) n = zsum 4294967296 (zwd m q a) n := zsum_congr (fun p hp => (g1'.2 a hna).wd (by omega))
  have ey : zsum 4294967296 (zwd m2 q b) k = zsum 4294967296 (zwd m q b) k := zsum_congr (fun p hp => (g1'.2 b hne).wd (by omega))
  refine z_iconst X dX8_multiply_45 ?_
  refine z_istore X dX8_multiply_46 (fun y => [_, _, _, _, _, some (vi y), _, _, _, _, _, _, _, _, _, _]) (by decide) (fun _ => rfl) (fun x5_46 hx5_46 => ?_)
  subst hx5_46
  refine zl8_rows X hA ha hb ht hna hne en ek hn2 hk2 (e := n + k) (by omega) rfl n 0 m2 _ _ _ _ _ _ _ _ _ _ (by omega) zsP.rfl' (fun p _ h2 => g2' p h2) (by rw [zsum_zero g2']; simp [zsum]) (fun m3 l5 l6 l7 l8 l9 l10 l11 l12 l13 l14 l15 w1 w3 => ?_)
  rw [ex, ey, ← vn, ← vk] at w3
  have hF := g1'.t w1
  have hvw : ((v * w).natAbs : Int) = zsum 4294967296 (zwd m3 q t) (n + k) := by rw [w3, zabs_mul]
  have fa : zms m3 (q + 2) t ((n + k : Nat) : Int) (q + 3) a = m (q + 3) a := by rw [zms_nq _ _ _ _ _ (by omega)]; exact (hF.2 a hna).2.1
  have fb : zms m3 (q + 2) t ((n + k : Nat) : Int) (q + 3) b = m (q + 3) b := by rw [zms_nq _ _ _ _ _ (by omega)]; exact (hF.2 b hne).2.1
  have hsg : ∀ s : Int, (m (q + 3) a = m (q + 3) b → s = 0) → (m (q + 3) a ≠ m (q + 3) b → s = 1) → (s = 0 ∧ 0 ≤ v * w) ∨ (s = 1 ∧ v * w ≤ 0) := by
    intro s h0 h1
    rcases sn with ⟨a1, a2⟩ | ⟨a1, a2⟩ <;> rcases sk with ⟨b1, b2⟩ | ⟨b1, b2⟩
    · exact Or.inl ⟨h0 (by omega), Int.mul_nonneg a2 b2⟩
    · exact Or.inr ⟨h1 (by omega), Int.mul_nonpos_of_nonneg_of_nonpos a2 (by omega)⟩
    · exact Or.inr ⟨h1 (by omega), Int.mul_nonpos_of_nonpos_of_nonneg (by omega) b2⟩
    · exact Or.inl ⟨h0 (by omega), Int.mul_nonneg_of_nonpos_of_nonpos (by omega) (by omega)⟩
  have hzs : ∀ s : Int, zsum 4294967296 (zwd (zms (zms m3 (q + 2) t ((n + k : Nat) : Int)) (q + 3) t s) q t) (n + k) = zsum 4294967296 (zwd m3 q t) (n + k) := fun s => zsum_congr (fun p _ => by unfold zwd; rw [zms_nq _ _ _ _ _ (by omega), zms_nq _ _ _ _ _ (by omega)])
  refine z_aload_n X dX8_multiply_214 rfl ?_
  refine z_getR X dX8_multiply_215 f_X8_14 rfl (by first | assumption | exact zbigA.o (by assumption)) (by assumption) ?_
  refine z_iload_n X dX8_multiply_218 rfl ?_
  refine z_iload X dX8_multiply_219 rfl ?_
  refine z_iast X (t) dX8_multiply_221 (by omega) (by assumption) (by omega) (by omega) ?_
  refine z_aload_n X dX8_multiply_222 rfl ?_
  refine z_getR X dX8_multiply_223 f_X8_17 rfl (by first | assumption | exact zbigA.o (by assumption)) (by assumption) ?_
  refine z_iload_n X dX8_multiply_226 rfl ?_
  refine z_aload_n X dX8_multiply_227 rfl ?_
  refine z_getR X dX8_multiply_228 f_X8_17 rfl (by first | assumption | exact zbigA.o (by assumption)) (by assumption) ?_
  refine z_iload_n X dX8_multiply_231 rfl ?_
  refine z_bald X (a) dX8_multiply_232 (by omega) (by assumption) (by omega) (by omega) ?_
  refine z_aload_n X dX8_multiply_233 rfl ?_
  refine z_getR X dX8_multiply_234 f_X8_17 rfl (by first | assumption | exact zbigA.o (by assumption)) (by assumption) ?_
  refine z_iload_n X dX8_multiply_237 rfl ?_
  refine z_bald X (b) dX8_multiply_238 (by omega) (by assumption) (by omega) (by omega) ?_
  rw [fa, fb]
  refine z_icmp_eq X dX8_multiply_239 246 (by decide) (by omega) (by omega) (fun h239 => ?_) (fun h239 => ?_)
  · refine z_iconst X dX8_multiply_246 ?_
    refine z_bast X (t) dX8_multiply_247 (by omega) (by first | exact Or.inl rfl | exact Or.inr rfl | omega) (by assumption) (by omega) (by omega) ?_
    refine z_aload_n X dX8_multiply_248 rfl ?_
    refine z_iload_n X dX8_multiply_249 rfl ?_
    refine z_callVv X (As := [_]) dX8_multiply_250 m_X8_trim i_X8_trim l_X8_66 (c_X8_trim (zg E) (n := n + k) (v := v * w) hA rfl ht (by rw [zms_nq _ _ _ _ _ (by omega), zms_same]) (by omega) (by rw [hzs]; exact hvw) (by rw [zms_same]; exact hsg _ (fun _ => by omega) (fun _ => by omega))) (by first | assumption | exact zbigA.o (by assumption)) rfl rfl rfl (Nat.le_of_ble_eq_true rfl) ⟨Nat.le_of_ble_eq_true rfl, Nat.le_of_ble_eq_true rfl⟩ ⟨Nat.le_of_ble_eq_true rfl, Nat.le_of_ble_eq_true rfl⟩ ⟨rfl, rfl⟩ (fun m5 hm5 => ?_)
    refine z_return (st := []) X rfl hQ dX8_multiply_253 ⟨rfl, rfl, ?_⟩
    exact ⟨hm5.1, ((hF.w2 rfl).w3 rfl).t hm5.2⟩
  · refine z_iconst X dX8_multiply_242 ?_
    refine z_goto X dX8_multiply_243 247 (by decide) ?_
    refine z_bast X (t) dX8_multiply_247 (by omega) (by first | exact Or.inl rfl | exact Or.inr rfl | omega) (by assumption) (by omega) (by omega) ?_
    refine z_aload_n X dX8_multiply_248 rfl ?_
    refine z_iload_n X dX8_multiply_249 rfl ?_
    refine z_callVv X (As := [_]) dX8_multiply_250 m_X8_trim i_X8_trim l_X8_66 (c_X8_trim (zg E) (n := n + k) (v := v * w) hA rfl ht (by rw [zms_nq _ _ _ _ _ (by omega), zms_same]) (by omega) (by rw [hzs]; exact hvw) (by rw [zms_same]; exact hsg _ (fun _ => by omega) (fun _ => by omega))) (by first | assumption | exact zbigA.o (by assumption)) rfl rfl rfl (Nat.le_of_ble_eq_true rfl) ⟨Nat.le_of_ble_eq_true rfl, Nat.le_of_ble_eq_true rfl⟩ ⟨Nat.le_of_ble_eq_true rfl, Nat.le_of_ble_eq_true rfl⟩ ⟨rfl, rfl⟩ (fun m5 hm5 => ?_)
    refine z_return (st := []) X rfl hQ dX8_multiply_253 ⟨rfl, rfl, ?_⟩
    exact ⟨hm5.1, ((hF.w2 rfl).w3 rfl).t hm5.2⟩

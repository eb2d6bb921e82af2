/-! Big: product -/
theorem zsum_upd {b : Int} {f g : Nat → Int} {p : Nat} (hg : ∀ j, j ≠ p → g j = f j) : ∀ {n : Nat}, p < n → zsum b g n = zsum b f n + (g p - f p) * b ^ p
  | 0, h => absurd h (by omega)
  | n + 1, h => by
    rw [zsum_s, zsum_s]
    by_cases hp : p = n
    · subst hp
      rw [zsum_congr (fun j hj => hg j (by omega))]
      grind
    · rw [zsum_upd hg (by omega : p < n), hg n (by omega)]
      grind
theorem zmul_le {a b A B : Int} (h1 : 0 ≤ a) (h2 : a ≤ A) (h3 : 0 ≤ b) (h4 : b ≤ B) : 0 ≤ a * b ∧ a * b ≤ A * B := ⟨Int.mul_nonneg h1 h3, Int.mul_le_mul h2 h4 h3 (by omega)⟩
theorem zl_zero {E : zCx} {rm : Room} {cs : Nat × Nat} {A : zA} (X : zOK E cX0_product RX0 12 none rm) {q N e : Nat} {x y : Value} (hA : zbigA A q N) {m0 : zM} (heN : e ≤ N) : ∀ (r i : Nat) (m : zM), i + r = e → (∀ a j, a ≠ q + 1 → m a j = m0 a j) → (∀ j, j < i → m (q + 1) j = 0) →
    (∀ (m' : zM), (∀ a j, a ≠ q + 1 → m' a j = m0 a j) → (∀ j, j < e → m' (q + 1) j = 0) → zW E cs A m' 62 [some (vr q), some x, some y, some (vi (e : Int)), some (vi (e : Int)), none, none, none, none, none, none, none] []) → zW E cs A m 42 [some (vr q), some x, some y, some (vi (e : Int)), some (vi (i : Int)), none, none, none, none, none, none, none] [] := by
  obtain ⟨hA1, hA2, hA3, hN, hN2⟩ := id hA
  intro r
  induction r with
  | zero =>
    intro i m hi h1 h2 K
    obtain rfl : i = e := by omega
    refine z_iload X dX0_product_42 rfl ?_
    refine z_iload_n X dX0_product_44 rfl ?_
    refine z_icmp_ge X dX0_product_45 62 (by decide) (by omega) (by omega) (fun h45 => ?_) (fun h45 => ?_)
    · exact K m h1 h2
    · exact absurd h45 (by omega)
  | succ r ih =>
    intro i m hi h1 h2 K
    refine z_iload X dX0_product_42 rfl ?_
    refine z_iload_n X dX0_product_44 rfl ?_
    refine z_icmp_ge X dX0_product_45 62 (by decide) (by omega) (by omega) (fun h45 => ?_) (fun h45 => ?_)
    · exact absurd h45 (by omega)
    · refine z_aload_n X dX0_product_48 rfl ?_
      refine z_getR X dX0_product_49 f_X0_9 rfl (by assumption) (by assumption) ?_
      refine z_iload X dX0_product_52 rfl ?_
      refine z_iconst X dX0_product_54 ?_
      refine z_iast X (_) dX0_product_55 rfl (by assumption) (by omega) (by omega) ?_
      refine z_iinc X dX0_product_56 rfl (fun y => [_, _, _, _, some (vi y), _, _, _, _, _, _, _]) (fun _ => rfl) (fun x4_56 hx4_56 => ?_)
      obtain rfl : x4_56 = ((i + 1 : Nat) : Int) := by omega
      refine z_goto X dX0_product_59 42 (by decide) ?_
      refine ih (i + 1) _ (by omega) (fun a j ha => by rw [zms_nq _ _ _ _ _ ha]; exact h1 a j ha) (fun j hj => ?_) K
      by_cases hji : j = i
      · rw [hji, zms_same]
      · rw [zms_nk _ _ _ _ _ hji]; exact h2 j (by omega)
/-- a row of the product: b is the limb of x at i -/
theorem zl_row {E : zCx} {rm : Room} {cs : Nat × Nat} {A : zA} (X : zOK E cX0_product RX0 12 none rm) {q N y M k e i : Nat} {x : Value} {b : Int} (hA : zbigA A q N) (hC : zbigA A y M) (hne : y ≠ q) {m0 : zM} (hy : zraw m0 y M k) (heN : e ≤ N) (hik : i + k < e) (hb : 0 ≤ b ∧ b < 1073741824) {S : Int} : ∀ (r j : Nat) (m : zM) (c : Int) (l10 l11 : Option Value), j + r = k → (∀ a j, a ≠ q + 1 → m a j = m0 a j) → (∀ p, p < e → 0 ≤ m (q + 1) p ∧ m (q + 1) p < 1073741824) → (∀ p, i + k ≤ p → m (q + 1) p = m0 (q + 1) p) → 0 ≤ c → c < 1073741824 → zsum 1073741824 (m (q + 1)) e + c * 1073741824 ^ (i + j) = S + b * 1073741824 ^ i * zsum 1073741824 (m0 (y + 1)) j →
    (∀ (m' : zM) (c : Int) (l10 l11 : Option Value), (∀ a j, a ≠ q + 1 → m' a j = m0 a j) → (∀ p, p < e → 0 ≤ m' (q + 1) p ∧ m' (q + 1) p < 1073741824) → (∀ p, i + k ≤ p → m' (q + 1) p = m0 (q + 1) p) → 0 ≤ c → c < 1073741824 → zsum 1073741824 (m' (q + 1)) e + c * 1073741824 ^ (i + k) = S + b * 1073741824 ^ i * zsum 1073741824 (m0 (y + 1)) k → zW E cs A m' 157 [some (vr q), some x, some (vr y), some (vi (e : Int)), some (vi (i : Int)), some (vl b), none, some (vl c), none, some (vi (k : Int)), l10, l11] []) → zW E cs A m 90 [some (vr q), some x, some (vr y), some (vi (e : Int)), some (vi (i : Int)), some (vl b), none, some (vl c), none, some (vi (j : Int)), l10, l11] [] := by
  obtain ⟨hy1, hy2⟩ := zbigA.ap hA hC hne
  obtain ⟨hA1, hA2, hA3, hN, hN2⟩ := id hA
  obtain ⟨hC1, hC2, hC3, hM, hM2⟩ := id hC
  obtain ⟨y1, y2, y3⟩ := hy
  intro r
  induction r with
  | zero =>
    intro j m c l10 l11 hj h1 h2 h3 hc0 hc1 hs K
    obtain rfl : j = k := by omega
    have e1 : m y 1 = (j : Int) := (h1 y 1 (by omega)).trans y1
    refine z_iload X dX0_product_90 rfl ?_
    refine z_aload_n X dX0_product_92 rfl ?_
    refine z_getI X dX0_product_93 f_X0_15 rfl (by assumption) ?_
    refine z_icmp_ge X dX0_product_96 157 (by decide) (by omega) (by omega) (fun h96 => ?_) (fun h96 => ?_)
    · exact K m c l10 l11 h1 h2 h3 hc0 hc1 hs
    · exact absurd h96 (by omega)
  | succ r ih =>
    intro j m c l10 l11 hj h1 h2 h3 hc0 hc1 hs K
    have e1 : m y 1 = (k : Int) := (h1 y 1 (by omega)).trans y1
    have e2 : m (y + 1) j = m0 (y + 1) j := h1 _ _ (by omega)
    have e3 := y3 j (by omega)
    have e4 := h2 (i + j) (by omega)
    have e5 := zmul_le hb.1 (show b ≤ 1073741823 by omega) e3.1 (show m0 (y + 1) j ≤ 1073741823 by omega)
    rw [← e2] at e5
    refine z_iload X dX0_product_90 rfl ?_
    refine z_aload_n X dX0_product_92 rfl ?_
    refine z_getI X dX0_product_93 f_X0_15 rfl (by assumption) ?_
    refine z_icmp_ge X dX0_product_96 157 (by decide) (by omega) (by omega) (fun h96 => ?_) (fun h96 => ?_)
    · exact absurd h96 (by omega)
    · refine z_lload X dX0_product_99 rfl ?_
      refine z_aload_n X dX0_product_101 rfl ?_
      refine z_getR X dX0_product_102 f_X0_9 rfl (by assumption) (by assumption) ?_
      refine z_iload X dX0_product_105 rfl ?_
      refine z_iald X (_) dX0_product_107 rfl (by assumption) (by omega) (by omega) ?_
      refine z_i2l X dX0_product_108 (by omega) ?_
      refine z_lmul X dX0_product_109 ?_
      refine z_aload_n X dX0_product_110 rfl ?_
      refine z_getR X dX0_product_111 f_X0_9 rfl (by assumption) (by assumption) ?_
      refine z_iload X dX0_product_114 rfl ?_
      refine z_iload X dX0_product_116 rfl ?_
      refine z_iadd X dX0_product_118 ?_
      refine z_iald X (i + j) dX0_product_119 (by omega) (by assumption) (by omega) (by omega) ?_
      refine z_i2l X dX0_product_120 (by omega) ?_
      refine z_ladd X dX0_product_121 ?_
      refine z_lload X dX0_product_122 rfl ?_
      refine z_ladd X dX0_product_124 ?_
      refine z_lstore X dX0_product_125 (fun y => [_, _, _, _, _, _, _, _, _, _, some (vl y), _]) (by decide) (fun _ => rfl) (fun z hz => ?_)
      refine z_aload_n X dX0_product_127 rfl ?_
      refine z_getR X dX0_product_128 f_X0_9 rfl (by assumption) (by assumption) ?_
      refine z_iload X dX0_product_131 rfl ?_
      refine z_iload X dX0_product_133 rfl ?_
      refine z_iadd X dX0_product_135 ?_
      refine z_lload X dX0_product_136 rfl ?_
      refine z_ldc2 X dX0_product_138 q_X0_40 (1073741823) (by decide) ?_
      refine z_land X dX0_product_141 30 (by omega) (by decide) 1073741824 (by decide) ?_
      refine z_l2i X dX0_product_142 ?_
      refine z_iast X (i + j) dX0_product_143 (by omega) (by assumption) (by omega) (by omega) ?_
      refine z_lload X dX0_product_144 rfl ?_
      refine z_bipush X dX0_product_146 (by decide) ?_
      refine z_lshr X dX0_product_148 30 1073741824 rfl (by decide) (by decide) (by omega) ?_
      refine z_lstore X dX0_product_149 (fun y => [_, _, _, _, _, _, _, some (vl y), _, _, _, _]) (by decide) (fun _ => rfl) (fun c2 hc2 => ?_)
      refine z_iinc X dX0_product_151 rfl (fun y => [_, _, _, _, _, _, _, _, _, some (vi y), _, _]) (fun _ => rfl) (fun x9_151 hx9_151 => ?_)
      obtain rfl : x9_151 = ((j + 1 : Nat) : Int) := by omega
      refine z_goto X dX0_product_154 90 (by decide) ?_
      refine ih (j + 1) _ c2 _ _ (by omega) (fun a p ha => by rw [zms_nq _ _ _ _ _ ha]; exact h1 a p ha) (fun p hp => ?_) (fun p hp => by rw [zms_nk _ _ _ _ _ (by omega)]; exact h3 p hp) (by omega) (by omega) ?_ K
      · by_cases hpj : p = i + j
        · rw [hpj, zms_same]; omega
        · rw [zms_nk _ _ _ _ _ hpj]; exact h2 p hp
      · have e7 := zsum_upd (b := 1073741824) (f := m (q + 1)) (g := zms m (q + 1) (i + j) (z % 1073741824) (q + 1)) (p := i + j) (fun p hp => zms_nk _ _ _ _ _ hp) (show i + j < e by omega)
        rw [zms_same] at e7
        have e8 : z = z % 1073741824 + c2 * 1073741824 := by omega
        rw [e7, zsum_s, ← Nat.add_assoc, Int.pow_succ, ← e2]
        rw [Int.pow_add] at hs ⊢
        grind
theorem zl_rows {E : zCx} {rm : Room} {cs : Nat × Nat} {A : zA} (X : zOK E cX0_product RX0 12 none rm) {q N x M1 y M n k e : Nat} (hA : zbigA A q N) (hB : zbigA A x M1) (hC : zbigA A y M) (hnx : x ≠ q) (hne : y ≠ q) {m0 : zM} (hx : zraw m0 x M1 n) (hy : zraw m0 y M k) (heN : e ≤ N) (hnk : n + k = e) : ∀ (r i : Nat) (m : zM) (l5 l7 l8 l9 l10 l11 : Option Value), i + r = n → (∀ a j, a ≠ q + 1 → m a j = m0 a j) → (∀ p, p < e → 0 ≤ m (q + 1) p ∧ m (q + 1) p < 1073741824) → (∀ p, i + k ≤ p → p < e → m (q + 1) p = 0) → zsum 1073741824 (m (q + 1)) e = zsum 1073741824 (m0 (x + 1)) i * zsum 1073741824 (m0 (y + 1)) k →
    (∀ (m' : zM) (l4 l5 l6 l7 l8 l9 l10 l11 : Option Value), (∀ a j, a ≠ q + 1 → m' a j = m0 a j) → (∀ p, p < e → 0 ≤ m' (q + 1) p ∧ m' (q + 1) p < 1073741824) → zsum 1073741824 (m' (q + 1)) e = zsum 1073741824 (m0 (x + 1)) n * zsum 1073741824 (m0 (y + 1)) k → zW E cs A m' 178 [some (vr q), some (vr x), some (vr y), some (vi (e : Int)), l4, l5, l6, l7, l8, l9, l10, l11] []) → zW E cs A m 65 [some (vr q), some (vr x), some (vr y), some (vi (e : Int)), some (vi (i : Int)), l5, none, l7, none, l9, l10, l11] [] := by
  obtain ⟨hx1, hx2⟩ := zbigA.ap hA hB hnx
  obtain ⟨hy1, hy2⟩ := zbigA.ap hA hC hne
  obtain ⟨hA1, hA2, hA3, hN, hN2⟩ := id hA
  obtain ⟨hB1, hB2, hB3, hM1, hM12⟩ := id hB
  obtain ⟨hC1, hC2, hC3, hM, hM2⟩ := id hC
  obtain ⟨x1, x2, x3⟩ := id hx
  obtain ⟨y1, y2, y3⟩ := id hy
  intro r
  induction r with
  | zero =>
    intro i m l5 l7 l8 l9 l10 l11 hi h1 h2 h3 hs K
    obtain rfl : i = n := by omega
    have e1 : m x 1 = (i : Int) := (h1 x 1 (by omega)).trans x1
    refine z_iload X dX0_product_65 rfl ?_
    refine z_aload_n X dX0_product_67 rfl ?_
    refine z_getI X dX0_product_68 f_X0_15 rfl (by assumption) ?_
    refine z_icmp_ge X dX0_product_71 178 (by decide) (by omega) (by omega) (fun h71 => ?_) (fun h71 => ?_)
    · exact K m _ _ _ _ _ _ _ _ h1 h2 hs
    · exact absurd h71 (by omega)
  | succ r ih =>
    intro i m l5 l7 l8 l9 l10 l11 hi h1 h2 h3 hs K
    have e1 : m x 1 = (n : Int) := (h1 x 1 (by omega)).trans x1
    have e2 : m (x + 1) i = m0 (x + 1) i := h1 _ _ (by omega)
    have e3 := x3 i (by omega)
    have hyr : zraw m y M k := ⟨(h1 y 1 (by omega)).trans y1, y2, fun p hp => by rw [h1 _ _ (by omega)]; exact y3 p hp⟩
    have e6 : zsum 1073741824 (m (y + 1)) k = zsum 1073741824 (m0 (y + 1)) k := zsum_congr (fun p _ => h1 _ _ (by omega))
    refine z_iload X dX0_product_65 rfl ?_
    refine z_aload_n X dX0_product_67 rfl ?_
    refine z_getI X dX0_product_68 f_X0_15 rfl (by assumption) ?_
    refine z_icmp_ge X dX0_product_71 178 (by decide) (by omega) (by omega) (fun h71 => ?_) (fun h71 => ?_)
    · exact absurd h71 (by omega)
    · refine z_aload_n X dX0_product_74 rfl ?_
      refine z_getR X dX0_product_75 f_X0_9 rfl (by assumption) (by assumption) ?_
      refine z_iload X dX0_product_78 rfl ?_
      refine z_iald X (_) dX0_product_80 rfl (by assumption) (by omega) (by omega) ?_
      refine z_i2l X dX0_product_81 (by omega) ?_
      refine z_lstore X dX0_product_82 (fun y => [_, _, _, _, _, some (vl y), _, _, _, _, _, _]) (by decide) (fun _ => rfl) (fun b hb => ?_)
      refine z_lconst X dX0_product_84 0 rfl ?_
      refine z_lstore X dX0_product_85 (fun y => [_, _, _, _, _, _, _, some (vl y), _, _, _, _]) (by decide) (fun _ => rfl) (fun x7_85 hx7_85 => ?_)
      subst hx7_85
      refine z_iconst X dX0_product_87 ?_
      refine z_istore X dX0_product_88 (fun y => [_, _, _, _, _, _, _, _, _, some (vi y), _, _]) (by decide) (fun _ => rfl) (fun x9_88 hx9_88 => ?_)
      subst hx9_88
      refine zl_row X hA hC hne (m0 := m) hyr heN (i := i) (by omega) (by omega) k 0 m 0 _ _ (by omega) (fun _ _ _ => rfl) h2 (fun _ _ => rfl) (by omega) (by omega) (S := zsum 1073741824 (m (q + 1)) e) (by simp [zsum]) (fun m' c l10 l11 g1 g2 g3 gc0 gc1 gs => ?_)
      have e4 : m' y 1 = (k : Int) := (g1 y 1 (by omega)).trans hyr.1
      have e5 : m' (q + 1) (i + k) = 0 := (g3 _ (by omega)).trans (h3 _ (by omega) (by omega))
      refine z_aload_n X dX0_product_157 rfl ?_
      refine z_getR X dX0_product_158 f_X0_9 rfl (by assumption) (by assumption) ?_
      refine z_iload X dX0_product_161 rfl ?_
      refine z_aload_n X dX0_product_163 rfl ?_
      refine z_getI X dX0_product_164 f_X0_15 rfl (by assumption) ?_
      refine z_iadd X dX0_product_167 ?_
      refine z_lload X dX0_product_168 rfl ?_
      refine z_l2i X dX0_product_170 ?_
      refine z_iast X (i + k) dX0_product_171 (by omega) (by assumption) (by omega) (by omega) ?_
      refine z_iinc X dX0_product_172 rfl (fun y => [_, _, _, _, some (vi y), _, _, _, _, _, _, _]) (fun _ => rfl) (fun x4_172 hx4_172 => ?_)
      obtain rfl : x4_172 = ((i + 1 : Nat) : Int) := by omega
      refine z_goto X dX0_product_175 65 (by decide) ?_
      refine ih (i + 1) _ _ _ none _ _ _ (by omega) (fun a p ha => by rw [zms_nq _ _ _ _ _ ha, g1 a p ha]; exact h1 a p ha) (fun p hp => ?_) (fun p hp1 hp2 => ?_) ?_ K
      · by_cases hpj : p = i + k
        · rw [hpj, zms_same]; omega
        · rw [zms_nk _ _ _ _ _ hpj]; exact g2 p hp
      · rw [zms_nk _ _ _ _ _ (by omega), g3 p (by omega)]; exact h3 p (by omega) hp2
      · have e7 := zsum_upd (b := 1073741824) (f := m' (q + 1)) (g := zms m' (q + 1) (i + k) c (q + 1)) (p := i + k) (fun p hp => zms_nk _ _ _ _ _ hp) (show i + k < e by omega)
        rw [zms_same, e5] at e7
        rw [hs, e6, hb, e2] at gs
        rw [e7, zsum_s]
        grind
theorem c_X0_product (G : zG) {A : zA} {m : zM} {q N x M1 y M s t : Nat} {v w : Int} (hA : zbigA A q N) (hB : zbigA A x M1) (hC : zbigA A y M) (hnx : x ≠ q) (hne : y ≠ q) (hb : zbi m x M1 v) (hc : zbi m y M w) (hv : (v.natAbs : Int) < 1073741824 ^ s) (hw : (w.natAbs : Int) < 1073741824 ^ t) (hst : s + t ≤ N) : zMet G k_X0_product [vr q, vr x, vr y] A m (zpv A (fun m' => zbi m' q N (v * w) ∧ zfr m m' q)) := by
  obtain ⟨hx1, hx2⟩ := zbigA.ap hA hB hnx
  obtain ⟨hy1, hy2⟩ := zbigA.ap hA hC hne
  obtain ⟨hA1, hA2, hA3, hN, hN2⟩ := id hA
  obtain ⟨hB1, hB2, hB3, hM1, hM12⟩ := id hB
  obtain ⟨hC1, hC2, hC3, hM, hM2⟩ := id hC
  refine zMet.of RX0 rfl (by decide +kernel) (Nat.le_of_ble_eq_true rfl) [some (vr q), some (vr x), some (vr y), none, none, none, none, none, none, none, none, none] rfl (fun E hG X hQ hNm => ?_)
  subst hG
  refine z_aload_n X dX0_product_0 rfl ?_
  refine z_iconst X dX0_product_1 ?_
  refine z_callVv X (As := [_]) dX0_product_2 m_X0_put i_X0_put l_X0_29 (c_X0_put (zg E) hA (by omega)) (by assumption) rfl rfl rfl (Nat.le_of_ble_eq_true rfl) ⟨Nat.le_of_ble_eq_true rfl, Nat.le_of_ble_eq_true rfl⟩ ⟨Nat.le_of_ble_eq_true rfl, Nat.le_of_ble_eq_true rfl⟩ ⟨rfl, rfl⟩ (fun m1 hm => ?_)
  obtain ⟨hq0, hf⟩ := hm
  have hb' := hb.fr (fun j => hf x j hnx hx1) (fun j => hf (x + 1) j hx2 (by omega))
  have hc' := hc.fr (fun j => hf y j hne hy1) (fun j => hf (y + 1) j hy2 (by omega))
  obtain ⟨n, hx, tx, vx, sx⟩ := hb'.abs
  obtain ⟨k, hy, ty, vy, sy⟩ := hc'.abs
  have x1 := hx.1
  have y1 := hy.1
  have hns : n ≤ s := zlen hx.2.2 tx (by rw [← vx]; exact hv)
  have hkt : k ≤ t := zlen hy.2.2 ty (by rw [← vy]; exact hw)
  refine z_aload_n X dX0_product_5 rfl ?_
  refine z_getI X dX0_product_6 f_X0_15 rfl (by assumption) ?_
  refine z_aload_n X dX0_product_9 rfl ?_
  refine z_getI X dX0_product_10 f_X0_15 rfl (by assumption) ?_
  refine z_iadd X dX0_product_13 ?_
  refine z_istore_n X dX0_product_14 (fun y => [_, _, _, some (vi y), _, _, _, _, _, _, _, _]) (by decide) (fun _ => rfl) (fun x3_14 hx3_14 => ?_)
  refine z_aload_n X dX0_product_15 rfl ?_
  refine z_getI X dX0_product_16 f_X0_15 rfl (by assumption) ?_
  refine z_if_eq X dX0_product_19 38 (by decide) (by omega) (fun h19 => ?_) (fun h19 => ?_)
  · refine z_return (st := []) X rfl hQ dX0_product_38 ⟨rfl, rfl, ?_⟩
    have h0 : n = 0 := by omega
    have hv0 : v = 0 := by rw [h0, zsum_0] at vx; omega
    rw [hv0, Int.zero_mul]
    exact ⟨hq0, hf⟩
  · refine z_aload_n X dX0_product_22 rfl ?_
    refine z_getI X dX0_product_23 f_X0_15 rfl (by assumption) ?_
    refine z_if_eq X dX0_product_26 38 (by decide) (by omega) (fun h26 => ?_) (fun h26 => ?_)
    · refine z_return (st := []) X rfl hQ dX0_product_38 ⟨rfl, rfl, ?_⟩
      have h0 : k = 0 := by omega
      have hw0 : w = 0 := by rw [h0, zsum_0] at vy; omega
      rw [hw0, Int.mul_zero]
      exact ⟨hq0, hf⟩
    · refine z_iload_n X dX0_product_29 rfl ?_
      refine z_aload_n X dX0_product_30 rfl ?_
      refine z_getR X dX0_product_31 f_X0_9 rfl (by assumption) (by assumption) ?_
      refine z_alen X dX0_product_34 (by assumption) ?_
      refine z_icmp_le X dX0_product_35 39 (by decide) (by omega) (by omega) (fun h35 => ?_) (fun h35 => ?_)
      · refine z_iconst X dX0_product_39 ?_
        refine z_istore X dX0_product_40 (fun y => [_, _, _, _, some (vi y), _, _, _, _, _, _, _]) (by decide) (fun _ => rfl) (fun x4_40 hx4_40 => ?_)
        subst hx4_40
        obtain rfl : x3_14 = ((n + k : Nat) : Int) := by omega
        refine zl_zero X hA (e := n + k) (by omega) (n + k) 0 m1 (by omega) (fun _ _ _ => rfl) (fun j hj => absurd hj (by omega)) (fun m2 g1 g2 => ?_)
        have hx' : zraw m2 x M1 n := ⟨(g1 _ _ (by omega)).trans x1, hx.2.1, fun p hp => by rw [g1 _ _ (by omega)]; exact hx.2.2 p hp⟩
        have hy' : zraw m2 y M k := ⟨(g1 _ _ (by omega)).trans y1, hy.2.1, fun p hp => by rw [g1 _ _ (by omega)]; exact hy.2.2 p hp⟩
        have ex : zsum 1073741824 (m2 (x + 1)) n = zsum 1073741824 (m1 (x + 1)) n := zsum_congr (fun p _ => g1 _ _ (by omega))
        have ey : zsum 1073741824 (m2 (y + 1)) k = zsum 1073741824 (m1 (y + 1)) k := zsum_congr (fun p _ => g1 _ _ (by omega))
        refine z_iconst X dX0_product_62 ?_
        refine z_istore X dX0_product_63 (fun y => [_, _, _, _, some (vi y), _, _, _, _, _, _, _]) (by decide) (fun _ => rfl) (fun x4_63 hx4_63 => ?_)
        subst hx4_63
        refine zl_rows X hA hB hC hnx hne hx' hy' (e := n + k) (by omega) rfl n 0 m2 _ _ none _ _ _ (by omega) (fun _ _ _ => rfl) (fun p hp => by rw [g2 p hp]; omega) (fun p h1 h2 => g2 p h2) (by rw [zsum_zero g2]; simp [zsum]) (fun m3 l4 l5 l6 l7 l8 l9 l10 l11 w1 w2 w3 => ?_)
        rw [ex, ey, ← vx, ← vy] at w3
        have f1 : m3 x 2 = m1 x 2 := (w1 _ _ (by omega)).trans (g1 _ _ (by omega))
        have f2 : m3 y 2 = m1 y 2 := (w1 _ _ (by omega)).trans (g1 _ _ (by omega))
        have f3 : zms m3 q 1 ((n + k : Nat) : Int) x 2 = m3 x 2 := zms_nk _ _ _ _ _ (by omega)
        have f4 : zms m3 q 1 ((n + k : Nat) : Int) y 2 = m3 y 2 := zms_nk _ _ _ _ _ (by omega)
        have hvw : ((v * w).natAbs : Int) = zsum 1073741824 (m3 (q + 1)) (n + k) := by rw [w3, Int.natAbs_mul]; exact Int.natCast_mul _ _
        have hsg : ∀ s : Int, (m x 2 = m y 2 → s = 0) → (m x 2 ≠ m y 2 → s = 1) → (s = 0 ∧ 0 ≤ v * w) ∨ (s = 1 ∧ v * w ≤ 0) := by
          intro s h0 h1
          rw [hf x 2 hnx hx1] at sx
          rw [hf y 2 hne hy1] at sy
          rcases sx with ⟨a1, a2⟩ | ⟨a1, a2⟩ <;> rcases sy with ⟨b1, b2⟩ | ⟨b1, b2⟩
          · exact Or.inl ⟨h0 (by omega), Int.mul_nonneg a2 b2⟩
          · exact Or.inr ⟨h1 (by omega), Int.mul_nonpos_of_nonneg_of_nonpos a2 (by omega)⟩
          · exact Or.inr ⟨h1 (by omega), Int.mul_nonpos_of_nonpos_of_nonneg (by omega) b2⟩
          · exact Or.inl ⟨h0 (by omega), Int.mul_nonneg_of_nonpos_of_nonpos (by omega) (by omega)⟩
        have f5 := hf x 2 hnx hx1
        have f6 := hf y 2 hne hy1
        have hfr : ∀ s : Int, zfr m (zms (zms m3 q 1 ((n + k : Nat) : Int)) q 2 s) q := fun s a j ha hb => by
          rw [zms_nq _ _ _ _ _ ha, zms_nq _ _ _ _ _ ha, w1 a j hb, g1 a j hb]; exact hf a j ha hb
        have hrw : ∀ s : Int, zraw (zms (zms m3 q 1 ((n + k : Nat) : Int)) q 2 s) q N (n + k) := fun s => ⟨by simp [zms], by omega, fun p hp => by simpa [zms] using w2 p hp⟩
        have hzs : ∀ s : Int, zsum 1073741824 (zms (zms m3 q 1 ((n + k : Nat) : Int)) q 2 s (q + 1)) (n + k) = zsum 1073741824 (m3 (q + 1)) (n + k) := fun s => zsum_congr (fun p _ => by simp [zms])
        refine z_aload_n X dX0_product_178 rfl ?_
        refine z_iload_n X dX0_product_179 rfl ?_
        refine z_putI X dX0_product_180 f_X0_15 rfl rfl (by assumption) ?_
        refine z_aload_n X dX0_product_183 rfl ?_
        refine z_aload_n X dX0_product_184 rfl ?_
        refine z_getI X dX0_product_185 f_X0_19 rfl (by assumption) ?_
        refine z_aload_n X dX0_product_188 rfl ?_
        refine z_getI X dX0_product_189 f_X0_19 rfl (by assumption) ?_
        refine z_icmp_eq X dX0_product_192 199 (by decide) (by omega) (by omega) (fun h192 => ?_) (fun h192 => ?_)
        · refine z_iconst X dX0_product_199 ?_
          refine z_putZ X dX0_product_200 f_X0_19 (by first | exact Or.inl rfl | exact Or.inr rfl | omega) rfl rfl (by assumption) ?_
          refine z_aload_n X dX0_product_203 rfl ?_
          refine z_callVv X (As := []) dX0_product_204 m_X0_trim i_X0_trim l_X0_60 (c_X0_trim (zg E) hA (hrw _) (by rw [zms_same]; omega)) (by assumption) rfl rfl rfl (Nat.le_of_ble_eq_true rfl) ⟨Nat.le_of_ble_eq_true rfl, Nat.le_of_ble_eq_true rfl⟩ ⟨Nat.le_of_ble_eq_true rfl, Nat.le_of_ble_eq_true rfl⟩ ⟨rfl, rfl⟩ (fun m5 hm5 => ?_)
          refine z_return (st := []) X rfl hQ dX0_product_207 ⟨rfl, rfl, ?_⟩
          obtain ⟨k3, b1, b2, b3, rfl⟩ := hm5
          exact ⟨zbi.trim (hrw _) b1 b2 b3 (by rw [hzs]; exact hvw) (by rw [zms_same]; exact hsg _ (fun _ => by omega) (fun _ => by omega)), fun a j ha hb => by rw [zms_nq _ _ _ _ _ ha, zms_nq _ _ _ _ _ ha]; exact hfr _ a j ha hb⟩
        · refine z_iconst X dX0_product_195 ?_
          refine z_goto X dX0_product_196 200 (by decide) ?_
          refine z_putZ X dX0_product_200 f_X0_19 (by first | exact Or.inl rfl | exact Or.inr rfl | omega) rfl rfl (by assumption) ?_
          refine z_aload_n X dX0_product_203 rfl ?_
          refine z_callVv X (As := []) dX0_product_204 m_X0_trim i_X0_trim l_X0_60 (c_X0_trim (zg E) hA (hrw _) (by rw [zms_same]; omega)) (by assumption) rfl rfl rfl (Nat.le_of_ble_eq_true rfl) ⟨Nat.le_of_ble_eq_true rfl, Nat.le_of_ble_eq_true rfl⟩ ⟨Nat.le_of_ble_eq_true rfl, Nat.le_of_ble_eq_true rfl⟩ ⟨rfl, rfl⟩ (fun m5 hm5 => ?_)
          refine z_return (st := []) X rfl hQ dX0_product_207 ⟨rfl, rfl, ?_⟩
          obtain ⟨k3, b1, b2, b3, rfl⟩ := hm5
          exact ⟨zbi.trim (hrw _) b1 b2 b3 (by rw [hzs]; exact hvw) (by rw [zms_same]; exact hsg _ (fun _ => by omega) (fun _ => by omega)), fun a j ha hb => by rw [zms_nq _ _ _ _ _ ha, zms_nq _ _ _ _ _ ha]; exact hfr _ a j ha hb⟩
      · refine z_return (st := []) X rfl hQ dX0_product_38 ⟨rfl, rfl, ?_⟩
        exact absurd h35 (by omega)

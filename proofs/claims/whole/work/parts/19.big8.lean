/-! Big: takeQuotient -/
theorem zknuth {V V' w w' a u g D : Int} (hV : V = V' + a * D) (hV' : 0 ≤ V' ∧ V' < D) (hw : w = w' + u * D) (hw' : 0 ≤ w' ∧ w' < D) (hu : 0 < u) (ha : 0 ≤ a) (hVw : V < w * 1073741824) (h2 : 1073741824 * D ≤ 2 * w) (hg : g = min (a / u) 1073741823) : V - g * w < w ∧ -2 * w < V - g * w ∧ 0 ≤ g := by
  have hq0 : 0 ≤ a / u := Int.ediv_nonneg ha (by omega)
  have hq1 := Int.ediv_mul_le a (by omega : u ≠ 0)
  have hq2 : a < (a / u + 1) * u := Int.lt_ediv_add_one_mul_self a hu
  have hg0 : 0 ≤ g := by omega
  have hg1 : g ≤ 1073741823 := by omega
  have hD : 0 < D := by omega
  have hgu : g * u ≤ a := by
    have : g * u ≤ (a / u) * u := Int.mul_le_mul_of_nonneg_right (by omega) (by omega)
    omega
  refine ⟨?_, ?_, hg0⟩
  · rcases (show g = 1073741823 ∨ g = a / u by omega) with h | h
    · rw [h]; omega
    · have h3 : (a + 1) * D ≤ (g + 1) * u * D := Int.mul_le_mul_of_nonneg_right (by rw [h]; omega) (by omega)
      have h4 : 0 ≤ (g + 1) * w' := Int.mul_nonneg (by omega) hw'.1
      have h5 : (g + 1) * w = (g + 1) * w' + (g + 1) * u * D := by rw [hw]; grind
      have h6 : (g + 1) * w = g * w + w := by grind
      have h7 : (a + 1) * D = a * D + D := by grind
      omega
  · have h3 : g * u * D ≤ a * D := Int.mul_le_mul_of_nonneg_right hgu (by omega)
    have h4 : g * w' ≤ 1073741823 * D := Int.mul_le_mul hg1 (by omega) hw'.1 (by omega)
    have h5 : g * w = g * w' + g * u * D := by rw [hw]; grind
    omega
theorem zl_tq {E : zCx} {cs : Nat × Nat} {A : zA} (hcs : cs = (0, 0)) (X : zOK E cX0_takeQuotient RX0 10 (some .int) k_X0_takeQuotient.2.2.2.2) {q N x M n k : Nat} {f : Value} {l6 : Option Value} {w V : Int} (hA : zbigA A q N) (hB : zbigA A x M) (hne : x ≠ q) {m1 : zM} (q1 : m1 q 1 = (n : Int)) (q2 : n ≤ N) (hx : zraw m1 x M k) (hkn : k ≤ n) (hw : w = zsum 1073741824 (m1 (x + 1)) k)
    (K : ∀ (m : zM) (g t : Int) (i : Option Value), (∀ a j, a ≠ q + 1 ∨ k ≤ j → m a j = m1 a j) → (∀ j, j < k → 0 ≤ m (q + 1) j ∧ m (q + 1) j < 1073741824) → zsum 1073741824 (m (q + 1)) k + t * 1073741824 ^ k = V - g * w → 0 ≤ V - g * w → V - g * w < w → zW E cs A m 143 [some (vr q), some f, some (vr x), some (vi (k : Int)), some (vl t), none, l6, none, some (vi g), i] []) :
    ∀ (r i : Nat) (m : zM) (g t : Int), i + r = 2 → (∀ a j, a ≠ q + 1 ∨ k ≤ j → m a j = m1 a j) → (∀ j, j < k → 0 ≤ m (q + 1) j ∧ m (q + 1) j < 1073741824) → zsum 1073741824 (m (q + 1)) k + t * 1073741824 ^ k = V - g * w → -(r : Int) * w < V - g * w → V - g * w < w → (-1073741824 ≤ t ∧ t ≤ 1073741824) → (-10 + (r : Int) ≤ g ∧ g < 1073741824) → zW E cs A m 110 [some (vr q), some f, some (vr x), some (vi (k : Int)), some (vl t), none, l6, none, some (vi g), some (vi (i : Int))] [] := by
  subst hcs
  obtain ⟨hx1, hx2⟩ := zbigA.ap hA hB hne
  obtain ⟨hA1, hA2, hA3, hN, hN2⟩ := id hA
  obtain ⟨hB1, hB2, hB3, hM, hM2⟩ := id hB
  have hpk := zpow_pos (b := 1073741824) (by omega) k
  intro r
  induction r with
  | zero =>
    intro i m g t hi h1 h2 hs hr1 hr2 ht hg
    obtain rfl : i = 2 := by omega
    refine z_iload X dX0_takeQuotient_110 rfl ?_
    refine z_iconst X dX0_takeQuotient_112 ?_
    refine z_icmp_ge X dX0_takeQuotient_113 143 (by decide) (by omega) (by omega) (fun h113 => ?_) (fun h113 => ?_)
    · exact K m g t _ h1 h2 hs (by simp at hr1; omega) hr2
    · exact absurd h113 (by omega)
  | succ r ih =>
    intro i m g t hi h1 h2 hs hr1 hr2 ht hg
    have hz0 := zsum_nonneg (b := 1073741824) (n := k) (by omega) (fun j hj => (h2 j hj).1)
    have hz1 := zsum_lt (b := 1073741824) (n := k) (by omega) h2
    refine z_iload X dX0_takeQuotient_110 rfl ?_
    refine z_iconst X dX0_takeQuotient_112 ?_
    refine z_icmp_ge X dX0_takeQuotient_113 143 (by decide) (by omega) (by omega) (fun h113 => ?_) (fun h113 => ?_)
    · exact absurd h113 (by omega)
    · refine z_lload X dX0_takeQuotient_116 rfl ?_
      refine z_lconst X dX0_takeQuotient_118 0 rfl ?_
      refine z_lcmp_ge X dX0_takeQuotient_119 dX0_takeQuotient_120 143 (by decide) (by omega) (by omega) (fun h119 => ?_) (fun h119 => ?_)
      · have h3 : 0 ≤ t * 1073741824 ^ k := Int.mul_nonneg h119 (by omega)
        exact K m g t _ h1 h2 hs (by omega) hr2
      · refine z_iinc X dX0_takeQuotient_123 rfl (fun y => [_, _, _, _, _, _, _, _, some (vi y), _]) (fun _ => rfl) (fun x8_123 hx8_123 => ?_)
        refine z_lload X dX0_takeQuotient_126 rfl ?_
        refine z_aload_n X dX0_takeQuotient_128 rfl ?_
        refine z_aload_n X dX0_takeQuotient_129 rfl ?_
        refine z_callVi X (As := [_]) dX0_takeQuotient_130 m_X0_putBack i_X0_putBack l_X0_83 (c_X0_putBack (zg E) hA hB hne ((h1 _ _ (by omega)).trans q1) q2 h2 (k := k) ⟨(h1 _ _ (by omega)).trans hx.1, hx.2.1, fun j hj => by rw [h1 _ _ (by omega)]; exact hx.2.2 j hj⟩ hkn) (by assumption) rfl rfl rfl (Nat.le_of_ble_eq_true rfl) ⟨Nat.le_of_ble_eq_true rfl, Nat.le_of_ble_eq_true rfl⟩ ⟨Nat.le_of_ble_eq_true rfl, Nat.le_of_ble_eq_true rfl⟩ ⟨rfl, rfl⟩ (fun c m2 hm => ?_)
        obtain ⟨g1, g2, ⟨gc0, gc1⟩, gs⟩ := hm
        refine z_i2l X dX0_takeQuotient_133 (by omega) ?_
        refine z_ladd X dX0_takeQuotient_134 ?_
        refine z_lstore X dX0_takeQuotient_135 (fun y => [_, _, _, _, some (vl y), _, _, _, _, _]) (by decide) (fun _ => rfl) (fun t2 ht2 => ?_)
        refine z_iinc X dX0_takeQuotient_137 rfl (fun y => [_, _, _, _, _, _, _, _, _, some (vi y)]) (fun _ => rfl) (fun x9_137 hx9_137 => ?_)
        obtain rfl : x9_137 = ((i + 1 : Nat) : Int) := by omega
        obtain rfl : x8_123 = g - 1 := by omega
        have e1 : zsum 1073741824 (m (x + 1)) k = w := by rw [hw]; exact zsum_congr (fun j _ => h1 _ _ (by omega))
        have e2 : V - (g - 1) * w = V - g * w + w := by grind
        have e3 : t * 1073741824 ^ k ≤ (-1) * 1073741824 ^ k := Int.mul_le_mul_of_nonneg_right (by omega) (by omega)
        have e4 : -((r + 1 : Nat) : Int) * w = -(r : Int) * w - w := by rw [Int.natCast_add]; grind
        have e5 : t2 * 1073741824 ^ k = t * 1073741824 ^ k + c * 1073741824 ^ k := by rw [ht2]; grind
        refine z_goto X dX0_takeQuotient_140 110 (by decide) ?_
        refine ih (i + 1) m2 (g - 1) t2 (by omega) (fun a j ha => (g1 a j ha).trans (h1 a j ha)) g2 (by omega) (by omega) (by omega) (by omega) (by omega)
theorem zt_tq54 {E : zCx} (X : zOK E cX0_takeQuotient RX0 10 (some .int) k_X0_takeQuotient.2.2.2.2) {A : zA} {m : zM} {q N x M n d : Nat} {f : Value} {w V t0 : Int} {P : Int → zM → Prop} (hQ : zRet E (zpi A P) 0 0) (hA : zbigA A q N) (hB : zbigA A x M) (hne : x ≠ q) (hr : zraw m q N n) (hx : zraw m x M (d + 1)) (hkn : d + 1 ≤ n) (hs0 : m q 2 = 0) (ht : 0 ≤ t0 ∧ t0 < 1073741824) (hV : V = zsum 1073741824 (m (q + 1)) (d + 1) + t0 * 1073741824 ^ (d + 1)) (hw : w = zsum 1073741824 (m (x + 1)) (d + 1)) (hV0 : 0 ≤ V) (hVw : V < w * 1073741824) (h2w : 1073741824 ^ (d + 1) ≤ 2 * w) (hu : m (x + 1) d ≠ 0)
    (hP : ∀ m', zbi m' q N (V % w) → zfr m m' q → P (V / w) m') : zW E (0, 0) A m 54 [some (vr q), some f, some (vr x), some (vi ((d + 1 : Nat) : Int)), none, none, none, none, none, none] [vl t0] := by
  obtain ⟨hx1, hx2⟩ := zbigA.ap hA hB hne
  obtain ⟨hA1, hA2, hA3, hN, hN2⟩ := id hA
  obtain ⟨hB1, hB2, hB3, hM, hM2⟩ := id hB
  have e5 := hr.2.2 d (by omega)
  have e6 := hx.2.2 d (by omega)
  have hnN := hr.2.1
  have hkM := hx.2.1
  have hw0 : 0 < w := by
    have := zpow_pos (b := 1073741824) (by omega) (d + 1)
    omega
  refine z_lstore X dX0_takeQuotient_54 (fun y => [_, _, _, _, some (vl y), _, _, _, _, _]) (by decide) (fun _ => rfl) (fun t0 ht2 => ?_)
  subst ht2
  refine z_lload X dX0_takeQuotient_56 rfl ?_
  refine z_bipush X dX0_takeQuotient_58 (by decide) ?_
  refine z_lshl X dX0_takeQuotient_60 30 1073741824 rfl (by decide) (by decide) ?_
  refine z_aload_n X dX0_takeQuotient_61 rfl ?_
  refine z_getR X dX0_takeQuotient_62 f_X0_9 rfl (by assumption) (by assumption) ?_
  refine z_iload_n X dX0_takeQuotient_65 rfl ?_
  refine z_iconst X dX0_takeQuotient_66 ?_
  refine z_isub X dX0_takeQuotient_67 ?_
  refine z_iald X (d) dX0_takeQuotient_68 (by omega) (by assumption) (by omega) (by omega) ?_
  refine z_i2l X dX0_takeQuotient_69 (by omega) ?_
  refine z_ladd X dX0_takeQuotient_70 ?_
  refine z_aload_n X dX0_takeQuotient_71 rfl ?_
  refine z_getR X dX0_takeQuotient_72 f_X0_9 rfl (by assumption) (by assumption) ?_
  refine z_iload_n X dX0_takeQuotient_75 rfl ?_
  refine z_iconst X dX0_takeQuotient_76 ?_
  refine z_isub X dX0_takeQuotient_77 ?_
  refine z_iald X (d) dX0_takeQuotient_78 (by omega) (by assumption) (by omega) (by omega) ?_
  refine z_i2l X dX0_takeQuotient_79 (by omega) ?_
  refine z_ldiv X dX0_takeQuotient_80 (by omega) (by omega) ?_
  refine z_lstore X dX0_takeQuotient_81 (fun y => [_, _, _, _, _, _, some (vl y), _, _, _]) (by decide) (fun _ => rfl) (fun gs hgs => ?_)
  have hgs0 : 0 ≤ gs := by rw [hgs]; exact Int.ediv_nonneg (by omega) (by omega)
  have hgs1 : gs ≤ t0 * 1073741824 + m (q + 1) d := by rw [hgs]; exact Int.ediv_le_self _ (by omega)
  refine z_lload X dX0_takeQuotient_83 rfl ?_
  refine z_ldc2 X dX0_takeQuotient_85 q_X0_40 (1073741823) (by decide) ?_
  refine z_minl X dX0_takeQuotient_88 l_X0_76 ms_minl mi_math mc_minl (by decide) (Nat.le_of_ble_eq_true rfl) ⟨Nat.le_of_ble_eq_true rfl, Nat.le_of_ble_eq_true rfl⟩ (by omega) (by omega) ?_
  refine z_l2i X dX0_takeQuotient_91 ?_
  refine z_istore X dX0_takeQuotient_92 (fun y => [_, _, _, _, _, _, _, _, some (vi y), _]) (by decide) (fun _ => rfl) (fun g hg => ?_)
  have hkn1 := zknuth (V := V) (V' := zsum 1073741824 (m (q + 1)) d) (w := w) (w' := zsum 1073741824 (m (x + 1)) d) (a := t0 * 1073741824 + m (q + 1) d) (u := m (x + 1) d) (g := g) (D := 1073741824 ^ d) (by rw [hV, zsum_s, Int.pow_succ]; grind) ⟨zsum_nonneg (by omega) (fun i hi => (hr.2.2 i (by omega)).1), zsum_lt (by omega) (fun i hi => hr.2.2 i (by omega))⟩ (by rw [hw, zsum_s]) ⟨zsum_nonneg (by omega) (fun i hi => (hx.2.2 i (by omega)).1), zsum_lt (by omega) (fun i hi => hx.2.2 i (by omega))⟩ (by omega) (by omega) hVw (by rw [Int.pow_succ] at h2w; omega) (by rw [hg, hgs])
  refine z_lload X dX0_takeQuotient_94 rfl ?_
  refine z_aload_n X dX0_takeQuotient_96 rfl ?_
  refine z_iload X dX0_takeQuotient_97 rfl ?_
  refine z_i2l X dX0_takeQuotient_99 (by omega) ?_
  refine z_aload_n X dX0_takeQuotient_100 rfl ?_
  refine z_callVl X (As := [_, _]) dX0_takeQuotient_101 m_X0_takeAway i_X0_takeAway l_X0_79 (c_X0_takeAway (zg E) hA hB hne hr hx hkn ⟨by omega, by omega⟩) (by assumption) rfl rfl rfl (Nat.le_of_ble_eq_true rfl) ⟨Nat.le_of_ble_eq_true rfl, Nat.le_of_ble_eq_true rfl⟩ ⟨Nat.le_of_ble_eq_true rfl, Nat.le_of_ble_eq_true rfl⟩ ⟨rfl, rfl⟩ (fun c m2 hm => ?_)
  obtain ⟨g1, g2, ⟨gc0, gc1⟩, gsum⟩ := hm
  refine z_ladd X dX0_takeQuotient_104 ?_
  refine z_lstore X dX0_takeQuotient_105 (fun y => [_, _, _, _, some (vl y), _, _, _, _, _]) (by decide) (fun _ => rfl) (fun t1 ht1 => ?_)
  refine z_iconst X dX0_takeQuotient_107 ?_
  refine z_istore X dX0_takeQuotient_108 (fun y => [_, _, _, _, _, _, _, _, _, some (vi y)]) (by decide) (fun _ => rfl) (fun x9_108 hx9_108 => ?_)
  subst hx9_108
  have e9 : t1 * 1073741824 ^ (d + 1) = t0 * 1073741824 ^ (d + 1) + c * 1073741824 ^ (d + 1) := by rw [ht1]; grind
  refine zl_tq rfl X hA hB hne hr.1 hr.2.1 hx hkn hw (V := V) ?_ 2 0 m2 g t1 rfl g1 g2 (by rw [← hw] at gsum; omega) (by omega) (by omega) (by omega) (by omega)
  intro m3 g3 t3 i3 b1 b2 b3 b4 b5
  have hz0 := zsum_nonneg (b := 1073741824) (n := d + 1) (by omega) (fun j hj => (b2 j hj).1)
  have hz1 := zsum_lt (b := 1073741824) (n := d + 1) (by omega) b2
  have hwk := zsum_lt (b := 1073741824) (n := d + 1) (by omega) hx.2.2
  have ht30 : t3 = 0 := by
    have hp := zpow_pos (b := 1073741824) (by omega) (d + 1)
    rcases (show t3 ≤ -1 ∨ t3 = 0 ∨ 1 ≤ t3 by omega) with h | h | h
    · have : t3 * 1073741824 ^ (d + 1) ≤ (-1) * 1073741824 ^ (d + 1) := Int.mul_le_mul_of_nonneg_right h (by omega)
      omega
    · exact h
    · have : 1 * 1073741824 ^ (d + 1) ≤ t3 * 1073741824 ^ (d + 1) := Int.mul_le_mul_of_nonneg_right h (by omega)
      omega
  rw [ht30] at b3
  obtain ⟨hdiv, hmod⟩ := (Int.ediv_emod_unique (a := V) (b := w) (r := V - g3 * w) (q := g3) hw0).mpr ⟨by rw [Int.mul_comm w]; omega, b4, b5⟩
  have hrw : zraw (zms m3 q 1 ((d + 1 : Nat) : Int)) q N (d + 1) := ⟨zms_same _ _ _ _, by have := hr.2.1; omega, fun p hp => by simpa [zms] using b2 p hp⟩
  have hs3 : zms m3 q 1 ((d + 1 : Nat) : Int) q 2 = 0 := by rw [zms_nk _ _ _ _ _ (by omega), b1 _ _ (by omega)]; exact hs0
  have hzs : zsum 1073741824 (zms m3 q 1 ((d + 1 : Nat) : Int) (q + 1)) (d + 1) = zsum 1073741824 (m3 (q + 1)) (d + 1) := zsum_congr (fun p _ => by simp [zms])
  refine z_aload_n X dX0_takeQuotient_143 rfl ?_
  refine z_iload_n X dX0_takeQuotient_144 rfl ?_
  refine z_putI X dX0_takeQuotient_145 f_X0_15 rfl rfl (by assumption) ?_
  refine z_aload_n X dX0_takeQuotient_148 rfl ?_
  refine z_callVv X (As := []) dX0_takeQuotient_149 m_X0_trim i_X0_trim l_X0_60 (c_X0_trim (zg E) hA hrw (Or.inl hs3)) (by assumption) rfl rfl rfl (Nat.le_of_ble_eq_true rfl) ⟨Nat.le_of_ble_eq_true rfl, Nat.le_of_ble_eq_true rfl⟩ ⟨Nat.le_of_ble_eq_true rfl, Nat.le_of_ble_eq_true rfl⟩ ⟨rfl, rfl⟩ (fun m5 hm5 => ?_)
  refine z_iload X dX0_takeQuotient_152 rfl ?_
  refine z_ireturn (st := []) X rfl hQ dX0_takeQuotient_154 ⟨rfl, _, rfl, ?_⟩
  obtain ⟨k3, f1, f2, f3, rfl⟩ := hm5
  rw [← hdiv]
  refine hP _ (zbi.trim hrw f1 f2 f3 (by rw [hzs, hmod]; omega) (Or.inl ⟨hs3, by omega⟩)) (fun a j ha hb => ?_)
  rw [zms_nq _ _ _ _ _ ha, zms_nq _ _ _ _ _ ha, zms_nq _ _ _ _ _ ha]
  exact b1 a j (by omega)
theorem c_X0_takeQuotient (G : zG) {A : zA} {m : zM} {q N x M e : Nat} {v f w : Int} (hA : zbigA A q N) (hB : zbigA A x M) (hne : x ≠ q) (hb : zbi m q N v) (hc : zbi m x M w) (hf : 1 ≤ f ∧ f ≤ 1073741824) (hv0 : 0 ≤ v) (hvw : v < w) (he : w < 1073741824 ^ e) (he2 : 1073741824 ^ e ≤ 2 * w) (heN : e + 1 ≤ N) : zMet G k_X0_takeQuotient [vr q, vi f, vr x] A m (zpi A (fun r m' => r = v * f / w ∧ zbi m' q N (v * f % w) ∧ zfr m m' q)) := by
  obtain ⟨hx1, hx2⟩ := zbigA.ap hA hB hne
  obtain ⟨hA1, hA2, hA3, hN, hN2⟩ := id hA
  obtain ⟨hB1, hB2, hB3, hM, hM2⟩ := id hB
  have hV0 : 0 ≤ v * f := Int.mul_nonneg hv0 (by omega)
  have hVw : v * f < w * 1073741824 := by
    have h1 : v * f ≤ v * 1073741824 := Int.mul_le_mul_of_nonneg_left hf.2 hv0
    omega
  have hVN : v * f < 1073741824 ^ (e + 1) := by rw [Int.pow_succ]; omega
  have hVN2 : (1073741824 : Int) ^ (e + 1) ≤ 1073741824 ^ N := zpow_le (by omega) heN
  refine zMet.of RX0 rfl (by decide +kernel) (Nat.le_of_ble_eq_true rfl) [some (vr q), some (vi f), some (vr x), none, none, none, none, none, none, none] rfl (fun E hG X hQ hNm => ?_)
  subst hG
  refine z_aload_n X dX0_takeQuotient_0 rfl ?_
  refine z_iload_n X dX0_takeQuotient_1 rfl ?_
  refine z_callVv X (As := [_]) dX0_takeQuotient_2 m_X0_times i_X0_times l_X0_73 (c_X0_times (zg E) hA hb (by omega) (by omega)) (by assumption) rfl rfl rfl (Nat.le_of_ble_eq_true rfl) ⟨Nat.le_of_ble_eq_true rfl, Nat.le_of_ble_eq_true rfl⟩ ⟨Nat.le_of_ble_eq_true rfl, Nat.le_of_ble_eq_true rfl⟩ ⟨rfl, rfl⟩ (fun m1 hm => ?_)
  obtain ⟨hb1, hf1⟩ := hm
  have hc1 := hc.fr (fun j => hf1 x j hne hx1) (fun j => hf1 (x + 1) j hx2 (by omega))
  obtain ⟨n, hr, htop, hV, hs⟩ := hb1.abs
  obtain ⟨k, hx, hxt, hw, hxs⟩ := hc1.abs
  have x1 := hx.1
  have r1 := hr.1
  have hke : k ≤ e := zlen hx.2.2 hxt (by omega)
  have hk0 : k ≠ 0 := fun h => by rw [h, zsum_0] at hw; omega
  obtain ⟨d, rfl⟩ : ∃ d, k = d + 1 := ⟨k - 1, by omega⟩
  have hu : m1 (x + 1) d ≠ 0 := hxt (by omega)
  have hwlt := zsum_lt (b := 1073741824) (by omega) hx.2.2
  have hwge := zsum_top (b := 1073741824) (n := d) (by omega) (fun i hi => (hx.2.2 i hi).1) hu
  have hed : e = d + 1 := by
    rcases Nat.lt_or_ge (d + 1) e with h | h
    · have h1 : (1073741824 : Int) ^ (d + 1 + 1) ≤ 1073741824 ^ e := zpow_le (by omega) (by omega)
      have h2 : (1073741824 : Int) ^ (d + 1 + 1) = 1073741824 ^ (d + 1) * 1073741824 := Int.pow_succ _ _
      omega
    · omega
  subst hed
  have hw' : w = zsum 1073741824 (m1 (x + 1)) (d + 1) := by omega
  have hV' : v * f = zsum 1073741824 (m1 (q + 1)) n := by omega
  have hnk : n ≤ d + 1 + 1 := zlen hr.2.2 htop (by omega)
  have hx0 := hx.2.2 d (by omega)
  have hnN := hr.2.1
  have hkM := hx.2.1
  refine z_aload_n X dX0_takeQuotient_5 rfl ?_
  refine z_getI X dX0_takeQuotient_6 f_X0_15 rfl (by assumption) ?_
  refine z_istore_n X dX0_takeQuotient_9 (fun y => [_, _, _, some (vi y), _, _, _, _, _, _]) (by decide) (fun _ => rfl) (fun e' he' => ?_)
  obtain rfl : e' = ((d + 1 : Nat) : Int) := by omega
  refine z_iload_n X dX0_takeQuotient_10 rfl ?_
  refine z_if_eq X dX0_takeQuotient_11 33 (by decide) (by omega) (fun h11 => ?_) (fun h11 => ?_)
  · exact absurd h11 (by omega)
  · refine z_aload_n X dX0_takeQuotient_14 rfl ?_
    refine z_getI X dX0_takeQuotient_15 f_X0_15 rfl (by assumption) ?_
    refine z_iload_n X dX0_takeQuotient_18 rfl ?_
    refine z_icmp_lt X dX0_takeQuotient_19 33 (by decide) (by omega) (by omega) (fun h19 => ?_) (fun h19 => ?_)
    · refine z_iconst X dX0_takeQuotient_33 ?_
      refine z_ireturn (st := []) X rfl hQ dX0_takeQuotient_34 ⟨rfl, _, rfl, ?_⟩
      have hlt : v * f < w := by
        have h1 := zsum_lt (b := 1073741824) (by omega) hr.2.2
        have h2 : (1073741824 : Int) ^ n ≤ 1073741824 ^ d := zpow_le (by omega) (by omega)
        omega
      rw [Int.ediv_eq_zero_of_lt hV0 hlt, Int.emod_eq_of_lt hV0 hlt]
      exact ⟨rfl, hb1, hf1⟩
    · refine z_aload_n X dX0_takeQuotient_22 rfl ?_
      refine z_getR X dX0_takeQuotient_23 f_X0_9 rfl (by assumption) (by assumption) ?_
      refine z_iload_n X dX0_takeQuotient_26 rfl ?_
      refine z_iconst X dX0_takeQuotient_27 ?_
      refine z_isub X dX0_takeQuotient_28 ?_
      refine z_iald X (d) dX0_takeQuotient_29 (by omega) (by assumption) (by omega) (by omega) ?_
      refine z_if_ne X dX0_takeQuotient_30 35 (by decide) (by omega) (fun h30 => ?_) (fun h30 => ?_)
      · refine z_aload_n X dX0_takeQuotient_35 rfl ?_
        refine z_getI X dX0_takeQuotient_36 f_X0_15 rfl (by assumption) ?_
        refine z_iload_n X dX0_takeQuotient_39 rfl ?_
        refine z_icmp_le X dX0_takeQuotient_40 53 (by decide) (by omega) (by omega) (fun h40 => ?_) (fun h40 => ?_)
        · refine z_lconst X dX0_takeQuotient_53 0 rfl ?_
          have hn : n = d + 1 := by omega
          subst hn
          exact zt_tq54 X hQ hA hB hne hr hx (by omega) (by omega) (by omega) (V := v * f) (by rw [hV']; omega) hw' hV0 hVw he2 hu (fun m' a1 a2 => ⟨rfl, a1, hf1.trans a2⟩)
        · refine z_aload_n X dX0_takeQuotient_43 rfl ?_
          refine z_getR X dX0_takeQuotient_44 f_X0_9 rfl (by assumption) (by assumption) ?_
          refine z_iload_n X dX0_takeQuotient_47 rfl ?_
          have hr0 := hr.2.2 (d + 1) (by omega)
          refine z_iald X (d + 1) dX0_takeQuotient_48 (by omega) (by assumption) (by omega) (by omega) ?_
          refine z_i2l X dX0_takeQuotient_49 (by omega) ?_
          refine z_goto X dX0_takeQuotient_50 54 (by decide) ?_
          have hn : n = d + 1 + 1 := by omega
          subst hn
          exact zt_tq54 X hQ hA hB hne hr hx (by omega) (by omega) (by omega) (V := v * f) (by rw [hV', zsum_s]) hw' hV0 hVw he2 hu (fun m' a1 a2 => ⟨rfl, a1, hf1.trans a2⟩)
      · exact absurd hu (by omega)

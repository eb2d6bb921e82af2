/-! Enclosure: readWhole, readFigures -/
theorem zstepq {a X Y w : Int} (hw : 0 < w) : (a * X / w) * Y + (a * X % w) * Y / w = a * (X * Y) / w ∧ (a * X % w) * Y % w = a * (X * Y) % w := by
  have h1 := Int.emod_add_mul_ediv (a * X) w
  have e : a * (X * Y) = (a * X % w) * Y + w * ((a * X / w) * Y) := by
    have : a * (X * Y) = (a * X % w + w * (a * X / w)) * Y := by rw [h1]; grind
    rw [this]; grind
  rw [e, Int.add_mul_ediv_left _ _ (by omega), Int.add_mul_emod_self_left]
  exact ⟨by omega, rfl⟩
theorem zdiv_lt {r X w : Int} (hr : 0 ≤ r ∧ r < w) (hX : 0 < X) : 0 ≤ r * X / w ∧ r * X / w < X := by
  refine ⟨Int.ediv_nonneg (Int.mul_nonneg hr.1 (by omega)) (by omega), ?_⟩
  apply (Int.ediv_lt_iff_lt_mul (by omega : 0 < w)).mpr
  rw [Int.mul_comm X]
  exact Int.mul_lt_mul_of_pos_right hr.2 hX
theorem zwhole3 {l w : Int} (hl : 0 ≤ l ∧ l < w) : ∃ a1 r1 a2 r2 a3 r3 : Int, a1 = l * (1 * 1073741824) / w ∧ r1 = l * (1 * 1073741824) % w ∧ a2 = r1 * (1 * 1073741824) / w ∧ r2 = r1 * (1 * 1073741824) % w ∧ a3 = r2 * (1 * 4) / w ∧ r3 = r2 * (1 * 4) % w ∧ (0 ≤ r1 ∧ r1 < w) ∧ (0 ≤ r2 ∧ r2 < w) ∧ (0 ≤ a1 ∧ a1 < 1073741824) ∧ (0 ≤ a2 ∧ a2 < 1073741824) ∧ (0 ≤ a3 ∧ a3 < 4) ∧ l * 4611686018427387904 / w = ((0 * 1073741824 + a1) * 1073741824 + a2) * 4 + a3 ∧ l * 4611686018427387904 % w = r3 := by
  have hw : 0 < w := by omega
  have b1 : 0 ≤ l * (1 * 1073741824) % w ∧ l * (1 * 1073741824) % w < w := ⟨Int.emod_nonneg _ (by omega), Int.emod_lt_of_pos _ hw⟩
  have s1 := zstepq (a := l) (X := 1 * 1073741824) (Y := 1 * 1073741824) hw
  have b2 : 0 ≤ l * (1 * 1073741824) % w * (1 * 1073741824) % w ∧ l * (1 * 1073741824) % w * (1 * 1073741824) % w < w := ⟨Int.emod_nonneg _ (by omega), Int.emod_lt_of_pos _ hw⟩
  have s2 := zstepq (a := l) (X := 1 * 1073741824 * (1 * 1073741824)) (Y := 1 * 4) hw
  rw [← s1.1, ← s1.2] at s2
  refine ⟨_, _, _, _, _, _, rfl, rfl, rfl, rfl, rfl, rfl, b1, b2, zdiv_lt hl (by omega), zdiv_lt b1 (by omega), zdiv_lt b2 (by omega), ?_, ?_⟩
  · rw [show l * 4611686018427387904 / w = l * (1 * 1073741824 * (1 * 1073741824) * (1 * 4)) / w from rfl, ← s2.1]
    omega
  · rw [show l * 4611686018427387904 % w = l * (1 * 1073741824 * (1 * 1073741824) * (1 * 4)) % w from rfl, ← s2.2]
theorem c_X2_readWhole (G : zG) {A : zA} {m : zM} {e x y f t : Nat} {l g w : Int} (hA : zencA A e) (hxy : (x = e + 1 ∧ y = e + 3) ∨ (x = e + 3 ∧ y = e + 1)) (hFA : zfigA A f) (hf : f + 2 ≤ e ∨ e + 9 ≤ f) (hx : zbi m x 660 l) (hy : zbi m y 660 g) (hu : zbi m (e + 5) 660 w) (hl : 0 ≤ l ∧ l < w) (hg : 0 ≤ g ∧ g < w) (ht : t + 1 ≤ 660) (hw1 : w < 1073741824 ^ t) (hw2 : 1073741824 ^ t ≤ 2 * w) :
    zMet G k_X2_readWhole [vr e, vr x, vr y, vr f] A m (zpi A (fun r m' => ((r = 1 ∧ l * 4611686018427387904 / w = g * 4611686018427387904 / w ∧ zbi m' x 660 (l * 4611686018427387904 % w) ∧ zbi m' y 660 (g * 4611686018427387904 % w) ∧ zbi m' (e + 5) 660 w ∧ m' f 7 = l * 4611686018427387904 / w ∧ m' f 6 = 0) ∨ (r = 0 ∧ l * 4611686018427387904 / w ≠ g * 4611686018427387904 / w ∧ m' f 6 = m f 6 ∧ m' f 7 = m f 7)) ∧ ∀ a j, (a < e ∨ e + 9 ≤ a) → (a = f ∧ (j = 6 ∨ j = 7)) ∨ m' a j = m a j)) := by
  obtain ⟨hA1, ⟨hA2, hA3, hA4, hA5⟩, hb1, hb2, hb3, hb4⟩ := id hA
  obtain ⟨hF1, hF2, hF3⟩ := id hFA
  have hX : zbigA A x 660 := by rcases hxy with h | h <;> (rw [h.1]; assumption)
  have hY : zbigA A y 660 := by rcases hxy with h | h <;> (rw [h.2]; assumption)
  obtain ⟨a1, r1, a2, r2, a3, r3, ea1, er1, ea2, er2, ea3, er3, br1, br2, ba1, ba2, ba3, eQ, eR⟩ := zwhole3 hl
  obtain ⟨b1, s1, b2, s2, b3, s3, eb1, es1, eb2, es2, eb3, es3, bs1, bs2, bb1, bb2, bb3, fQ, fR⟩ := zwhole3 hg
  rw [eQ, eR, fQ, fR]
  have hF : zout m m e e := fun _ _ _ _ => rfl
  have c6 : zfd m f 6 (m f 6) := rfl
  have c7 : zfd m f 7 (m f 7) := rfl
  refine zMet.of RX2 rfl (by decide +kernel) (Nat.le_of_ble_eq_true rfl) [some (vr e), some (vr x), some (vr y), some (vr f), none, none, none, none, none, none] rfl (fun E hG X hQ hNm => ?_)
  subst hG
  refine z_lconst X dX2_readWhole_0 0 rfl ?_
  refine z_lstore X dX2_readWhole_1 (fun y => [_, _, _, _, some (vl y), _, _, _, _, _]) (by decide) (fun _ => rfl) (fun x4_1 hx4_1 => ?_)
  subst hx4_1
  refine z_bipush X dX2_readWhole_3 (by decide) ?_
  refine z_istore X dX2_readWhole_5 (fun y => [_, _, _, _, _, _, some (vi y), _, _, _]) (by decide) (fun _ => rfl) (fun x6_5 hx6_5 => ?_)
  subst hx6_5
  refine z_iconst X dX2_readWhole_7 ?_
  refine z_istore X dX2_readWhole_8 (fun y => [_, _, _, _, _, _, _, some (vi y), _, _]) (by decide) (fun _ => rfl) (fun x7_8 hx7_8 => ?_)
  subst hx7_8
  refine z_iload X dX2_readWhole_10 rfl ?_
  refine z_iconst X dX2_readWhole_12 ?_
  refine z_icmp_ge X dX2_readWhole_13 83 (by decide) (by omega) (by omega) (fun h13 => ?_) (fun h13 => ?_)
  · exact absurd h13 (by omega)
  · refine z_aload_n X dX2_readWhole_16 rfl ?_
    refine z_iconst X dX2_readWhole_17 ?_
    refine z_iload X dX2_readWhole_18 rfl ?_
    refine z_ishl X dX2_readWhole_20 (30) (1073741824) rfl (by decide) (by decide) ?_
    refine z_aload_n X dX2_readWhole_21 rfl ?_
    refine z_getR X dX2_readWhole_22 f_X2_23 rfl (by first | assumption | exact zbigA.o (by assumption)) (by assumption) ?_
    refine z_callVi X (As := [_, _]) dX2_readWhole_25 m_X0_takeQuotient i_X0_takeQuotient l_X2_90 (c_X0_takeQuotient (zg E) hX hb3 (by omega) hx hu (by omega) hl.1 hl.2 hw1 hw2 ht) (by first | assumption | exact zbigA.o (by assumption)) rfl rfl rfl (Nat.le_of_ble_eq_true rfl) ⟨Nat.le_of_ble_eq_true rfl, Nat.le_of_ble_eq_true rfl⟩ ⟨Nat.le_of_ble_eq_true rfl, Nat.le_of_ble_eq_true rfl⟩ ⟨rfl, rfl⟩ (fun q1 m1 hm => ?_)
    obtain ⟨eq1, hx, hk⟩ := hm
    rw [← ea1] at eq1
    rw [← er1] at hx
    have hy := hy.k hk (by omega)
    have hu := hu.k hk (by omega)
    have hF := hF.k hk (by omega)
    have c6 := c6.k hk (by omega)
    have c7 := c7.k hk (by omega)
    refine z_istore X dX2_readWhole_28 (fun y => [_, _, _, _, _, _, _, _, some (vi y), _]) (by decide) (fun _ => rfl) (fun z1 hz1 => ?_)
    refine z_aload_n X dX2_readWhole_30 rfl ?_
    refine z_iconst X dX2_readWhole_31 ?_
    refine z_iload X dX2_readWhole_32 rfl ?_
    refine z_ishl X dX2_readWhole_34 (30) (1073741824) rfl (by decide) (by decide) ?_
    refine z_aload_n X dX2_readWhole_35 rfl ?_
    refine z_getR X dX2_readWhole_36 f_X2_23 rfl (by first | assumption | exact zbigA.o (by assumption)) (by assumption) ?_
    refine z_callVi X (As := [_, _]) dX2_readWhole_39 m_X0_takeQuotient i_X0_takeQuotient l_X2_90 (c_X0_takeQuotient (zg E) hY hb3 (by omega) hy hu (by omega) hg.1 hg.2 hw1 hw2 ht) (by first | assumption | exact zbigA.o (by assumption)) rfl rfl rfl (Nat.le_of_ble_eq_true rfl) ⟨Nat.le_of_ble_eq_true rfl, Nat.le_of_ble_eq_true rfl⟩ ⟨Nat.le_of_ble_eq_true rfl, Nat.le_of_ble_eq_true rfl⟩ ⟨rfl, rfl⟩ (fun p1 m2 hm => ?_)
    obtain ⟨ep1, hy, hk⟩ := hm
    rw [← eb1] at ep1
    rw [← es1] at hy
    have hx := hx.k hk (by omega)
    have hu := hu.k hk (by omega)
    have hF := hF.k hk (by omega)
    have c6 := c6.k hk (by omega)
    have c7 := c7.k hk (by omega)
    refine z_istore X dX2_readWhole_42 (fun y => [_, _, _, _, _, _, _, _, _, some (vi y)]) (by decide) (fun _ => rfl) (fun y1 hy1 => ?_)
    refine z_iload X dX2_readWhole_44 rfl ?_
    refine z_iload X dX2_readWhole_46 rfl ?_
    refine z_icmp_eq X dX2_readWhole_48 53 (by decide) (by omega) (by omega) (fun h48 => ?_) (fun h48 => ?_)
    · refine z_lload X dX2_readWhole_53 rfl ?_
      refine z_iload X dX2_readWhole_55 rfl ?_
      refine z_lshl X dX2_readWhole_57 (30) (1073741824) rfl (by decide) (by decide) ?_
      refine z_iload X dX2_readWhole_58 rfl ?_
      refine z_i2l X dX2_readWhole_60 (by omega) ?_
      refine z_ladd X dX2_readWhole_61 ?_
      refine z_lstore X dX2_readWhole_62 (fun y => [_, _, _, _, some (vl y), _, _, _, _, _]) (by decide) (fun _ => rfl) (fun o1 ho1 => ?_)
      refine z_iload X dX2_readWhole_64 rfl ?_
      refine z_if_ne X dX2_readWhole_66 74 (by decide) (by omega) (fun h66 => ?_) (fun h66 => ?_)
      · exact absurd rfl h66
      · refine z_bipush X dX2_readWhole_69 (by decide) ?_
        refine z_goto X dX2_readWhole_71 75 (by decide) ?_
        refine z_istore X dX2_readWhole_75 (fun y => [_, _, _, _, _, _, some (vi y), _, _, _]) (by decide) (fun _ => rfl) (fun x6_75 hx6_75 => ?_)
        subst hx6_75
        refine z_iinc X dX2_readWhole_77 rfl (fun y => [_, _, _, _, _, _, _, some (vi y), _, _]) (fun _ => rfl) (fun x7_77 hx7_77 => ?_)
        subst hx7_77
        refine z_goto X dX2_readWhole_80 10 (by decide) ?_
        refine z_iload X dX2_readWhole_10 rfl ?_
        refine z_iconst X dX2_readWhole_12 ?_
        refine z_icmp_ge X dX2_readWhole_13 83 (by decide) (by omega) (by omega) (fun h13 => ?_) (fun h13 => ?_)
        · exact absurd h13 (by omega)
        · refine z_aload_n X dX2_readWhole_16 rfl ?_
          refine z_iconst X dX2_readWhole_17 ?_
          refine z_iload X dX2_readWhole_18 rfl ?_
          refine z_ishl X dX2_readWhole_20 (30) (1073741824) rfl (by decide) (by decide) ?_
          refine z_aload_n X dX2_readWhole_21 rfl ?_
          refine z_getR X dX2_readWhole_22 f_X2_23 rfl (by first | assumption | exact zbigA.o (by assumption)) (by assumption) ?_
          refine z_callVi X (As := [_, _]) dX2_readWhole_25 m_X0_takeQuotient i_X0_takeQuotient l_X2_90 (c_X0_takeQuotient (zg E) hX hb3 (by omega) hx hu (by omega) br1.1 br1.2 hw1 hw2 ht) (by first | assumption | exact zbigA.o (by assumption)) rfl rfl rfl (Nat.le_of_ble_eq_true rfl) ⟨Nat.le_of_ble_eq_true rfl, Nat.le_of_ble_eq_true rfl⟩ ⟨Nat.le_of_ble_eq_true rfl, Nat.le_of_ble_eq_true rfl⟩ ⟨rfl, rfl⟩ (fun q2 m3 hm => ?_)
          obtain ⟨eq2, hx, hk⟩ := hm
          rw [← ea2] at eq2
          rw [← er2] at hx
          have hy := hy.k hk (by omega)
          have hu := hu.k hk (by omega)
          have hF := hF.k hk (by omega)
          have c6 := c6.k hk (by omega)
          have c7 := c7.k hk (by omega)
          refine z_istore X dX2_readWhole_28 (fun y => [_, _, _, _, _, _, _, _, some (vi y), _]) (by decide) (fun _ => rfl) (fun z2 hz2 => ?_)
          refine z_aload_n X dX2_readWhole_30 rfl ?_
          refine z_iconst X dX2_readWhole_31 ?_
          refine z_iload X dX2_readWhole_32 rfl ?_
          refine z_ishl X dX2_readWhole_34 (30) (1073741824) rfl (by decide) (by decide) ?_
          refine z_aload_n X dX2_readWhole_35 rfl ?_
          refine z_getR X dX2_readWhole_36 f_X2_23 rfl (by first | assumption | exact zbigA.o (by assumption)) (by assumption) ?_
          refine z_callVi X (As := [_, _]) dX2_readWhole_39 m_X0_takeQuotient i_X0_takeQuotient l_X2_90 (c_X0_takeQuotient (zg E) hY hb3 (by omega) hy hu (by omega) bs1.1 bs1.2 hw1 hw2 ht) (by first | assumption | exact zbigA.o (by assumption)) rfl rfl rfl (Nat.le_of_ble_eq_true rfl) ⟨Nat.le_of_ble_eq_true rfl, Nat.le_of_ble_eq_true rfl⟩ ⟨Nat.le_of_ble_eq_true rfl, Nat.le_of_ble_eq_true rfl⟩ ⟨rfl, rfl⟩ (fun p2 m4 hm => ?_)
          obtain ⟨ep2, hy, hk⟩ := hm
          rw [← eb2] at ep2
          rw [← es2] at hy
          have hx := hx.k hk (by omega)
          have hu := hu.k hk (by omega)
          have hF := hF.k hk (by omega)
          have c6 := c6.k hk (by omega)
          have c7 := c7.k hk (by omega)
          refine z_istore X dX2_readWhole_42 (fun y => [_, _, _, _, _, _, _, _, _, some (vi y)]) (by decide) (fun _ => rfl) (fun y2 hy2 => ?_)
          refine z_iload X dX2_readWhole_44 rfl ?_
          refine z_iload X dX2_readWhole_46 rfl ?_
          refine z_icmp_eq X dX2_readWhole_48 53 (by decide) (by omega) (by omega) (fun h48 => ?_) (fun h48 => ?_)
          · refine z_lload X dX2_readWhole_53 rfl ?_
            refine z_iload X dX2_readWhole_55 rfl ?_
            refine z_lshl X dX2_readWhole_57 (30) (1073741824) rfl (by decide) (by decide) ?_
            refine z_iload X dX2_readWhole_58 rfl ?_
            refine z_i2l X dX2_readWhole_60 (by omega) ?_
            refine z_ladd X dX2_readWhole_61 ?_
            refine z_lstore X dX2_readWhole_62 (fun y => [_, _, _, _, some (vl y), _, _, _, _, _]) (by decide) (fun _ => rfl) (fun o2 ho2 => ?_)
            refine z_iload X dX2_readWhole_64 rfl ?_
            refine z_if_ne X dX2_readWhole_66 74 (by decide) (by omega) (fun h66 => ?_) (fun h66 => ?_)
            · refine z_iconst X dX2_readWhole_74 ?_
              refine z_istore X dX2_readWhole_75 (fun y => [_, _, _, _, _, _, some (vi y), _, _, _]) (by decide) (fun _ => rfl) (fun x6_75 hx6_75 => ?_)
              subst hx6_75
              refine z_iinc X dX2_readWhole_77 rfl (fun y => [_, _, _, _, _, _, _, some (vi y), _, _]) (fun _ => rfl) (fun x7_77 hx7_77 => ?_)
              subst hx7_77
              refine z_goto X dX2_readWhole_80 10 (by decide) ?_
              refine z_iload X dX2_readWhole_10 rfl ?_
              refine z_iconst X dX2_readWhole_12 ?_
              refine z_icmp_ge X dX2_readWhole_13 83 (by decide) (by omega) (by omega) (fun h13 => ?_) (fun h13 => ?_)
              · exact absurd h13 (by omega)
              · refine z_aload_n X dX2_readWhole_16 rfl ?_
                refine z_iconst X dX2_readWhole_17 ?_
                refine z_iload X dX2_readWhole_18 rfl ?_
                refine z_ishl X dX2_readWhole_20 (2) (4) rfl (by decide) (by decide) ?_
                refine z_aload_n X dX2_readWhole_21 rfl ?_
                refine z_getR X dX2_readWhole_22 f_X2_23 rfl (by first | assumption | exact zbigA.o (by assumption)) (by assumption) ?_
                refine z_callVi X (As := [_, _]) dX2_readWhole_25 m_X0_takeQuotient i_X0_takeQuotient l_X2_90 (c_X0_takeQuotient (zg E) hX hb3 (by omega) hx hu (by omega) br2.1 br2.2 hw1 hw2 ht) (by first | assumption | exact zbigA.o (by assumption)) rfl rfl rfl (Nat.le_of_ble_eq_true rfl) ⟨Nat.le_of_ble_eq_true rfl, Nat.le_of_ble_eq_true rfl⟩ ⟨Nat.le_of_ble_eq_true rfl, Nat.le_of_ble_eq_true rfl⟩ ⟨rfl, rfl⟩ (fun q3 m5 hm => ?_)
                obtain ⟨eq3, hx, hk⟩ := hm
                rw [← ea3] at eq3
                rw [← er3] at hx
                have hy := hy.k hk (by omega)
                have hu := hu.k hk (by omega)
                have hF := hF.k hk (by omega)
                have c6 := c6.k hk (by omega)
                have c7 := c7.k hk (by omega)
                refine z_istore X dX2_readWhole_28 (fun y => [_, _, _, _, _, _, _, _, some (vi y), _]) (by decide) (fun _ => rfl) (fun z3 hz3 => ?_)
                refine z_aload_n X dX2_readWhole_30 rfl ?_
                refine z_iconst X dX2_readWhole_31 ?_
                refine z_iload X dX2_readWhole_32 rfl ?_
                refine z_ishl X dX2_readWhole_34 (2) (4) rfl (by decide) (by decide) ?_
                refine z_aload_n X dX2_readWhole_35 rfl ?_
                refine z_getR X dX2_readWhole_36 f_X2_23 rfl (by first | assumption | exact zbigA.o (by assumption)) (by assumption) ?_
                refine z_callVi X (As := [_, _]) dX2_readWhole_39 m_X0_takeQuotient i_X0_takeQuotient l_X2_90 (c_X0_takeQuotient (zg E) hY hb3 (by omega) hy hu (by omega) bs2.1 bs2.2 hw1 hw2 ht) (by first | assumption | exact zbigA.o (by assumption)) rfl rfl rfl (Nat.le_of_ble_eq_true rfl) ⟨Nat.le_of_ble_eq_true rfl, Nat.le_of_ble_eq_true rfl⟩ ⟨Nat.le_of_ble_eq_true rfl, Nat.le_of_ble_eq_true rfl⟩ ⟨rfl, rfl⟩ (fun p3 m6 hm => ?_)
                obtain ⟨ep3, hy, hk⟩ := hm
                rw [← eb3] at ep3
                rw [← es3] at hy
                have hx := hx.k hk (by omega)
                have hu := hu.k hk (by omega)
                have hF := hF.k hk (by omega)
                have c6 := c6.k hk (by omega)
                have c7 := c7.k hk (by omega)
                refine z_istore X dX2_readWhole_42 (fun y => [_, _, _, _, _, _, _, _, _, some (vi y)]) (by decide) (fun _ => rfl) (fun y3 hy3 => ?_)
                refine z_iload X dX2_readWhole_44 rfl ?_
                refine z_iload X dX2_readWhole_46 rfl ?_
                refine z_icmp_eq X dX2_readWhole_48 53 (by decide) (by omega) (by omega) (fun h48 => ?_) (fun h48 => ?_)
                · refine z_lload X dX2_readWhole_53 rfl ?_
                  refine z_iload X dX2_readWhole_55 rfl ?_
                  refine z_lshl X dX2_readWhole_57 (2) (4) rfl (by decide) (by decide) ?_
                  refine z_iload X dX2_readWhole_58 rfl ?_
                  refine z_i2l X dX2_readWhole_60 (by omega) ?_
                  refine z_ladd X dX2_readWhole_61 ?_
                  refine z_lstore X dX2_readWhole_62 (fun y => [_, _, _, _, some (vl y), _, _, _, _, _]) (by decide) (fun _ => rfl) (fun o3 ho3 => ?_)
                  refine z_iload X dX2_readWhole_64 rfl ?_
                  refine z_if_ne X dX2_readWhole_66 74 (by decide) (by omega) (fun h66 => ?_) (fun h66 => ?_)
                  · refine z_iconst X dX2_readWhole_74 ?_
                    refine z_istore X dX2_readWhole_75 (fun y => [_, _, _, _, _, _, some (vi y), _, _, _]) (by decide) (fun _ => rfl) (fun x6_75 hx6_75 => ?_)
                    subst hx6_75
                    refine z_iinc X dX2_readWhole_77 rfl (fun y => [_, _, _, _, _, _, _, some (vi y), _, _]) (fun _ => rfl) (fun x7_77 hx7_77 => ?_)
                    subst hx7_77
                    refine z_goto X dX2_readWhole_80 10 (by decide) ?_
                    refine z_iload X dX2_readWhole_10 rfl ?_
                    refine z_iconst X dX2_readWhole_12 ?_
                    refine z_icmp_ge X dX2_readWhole_13 83 (by decide) (by omega) (by omega) (fun h13 => ?_) (fun h13 => ?_)
                    · refine z_aload_n X dX2_readWhole_83 rfl ?_
                      refine z_lload X dX2_readWhole_84 rfl ?_
                      refine z_putL X dX2_readWhole_86 f_X2_63 rfl rfl (by assumption) ?_
                      refine z_aload_n X dX2_readWhole_89 rfl ?_
                      refine z_iconst X dX2_readWhole_90 ?_
                      refine z_putI X dX2_readWhole_91 f_X2_60 rfl rfl (by first | assumption | exact zbigA.o (by assumption)) ?_
                      refine z_iconst X dX2_readWhole_94 ?_
                      refine z_zreturn (st := []) X rfl hQ dX2_readWhole_95 (by first | exact Or.inl rfl | exact Or.inr rfl | omega) ⟨rfl, _, rfl, ?_⟩
                      refine ⟨Or.inl ⟨rfl, by omega, (hx.w (by omega)).w (by omega), (hy.w (by omega)).w (by omega), (hu.w (by omega)).w (by omega), ?_, zms_same _ _ _ _⟩, fun a j h => ?_⟩
                      · rw [zms_nk _ _ _ _ _ (by omega), zms_same]; omega
                      · by_cases h1 : a = f ∧ (j = 6 ∨ j = 7)
                        · exact Or.inl h1
                        · refine Or.inr ?_
                          rw [zms_ne _ _ _ _ (by omega), zms_ne _ _ _ _ (by omega)]
                          exact hF a j h h
                    · exact absurd h13 (by omega)
                  · exact absurd (by omega) h66
                · refine z_iconst X dX2_readWhole_51 ?_
                  refine z_zreturn (st := []) X rfl hQ dX2_readWhole_52 (by first | exact Or.inl rfl | exact Or.inr rfl | omega) ⟨rfl, _, rfl, ?_⟩
                  exact ⟨Or.inr ⟨rfl, by omega, c6, c7⟩, fun a j h => Or.inr (hF a j h h)⟩
            · exact absurd (by omega) h66
          · refine z_iconst X dX2_readWhole_51 ?_
            refine z_zreturn (st := []) X rfl hQ dX2_readWhole_52 (by first | exact Or.inl rfl | exact Or.inr rfl | omega) ⟨rfl, _, rfl, ?_⟩
            exact ⟨Or.inr ⟨rfl, by omega, c6, c7⟩, fun a j h => Or.inr (hF a j h h)⟩
    · refine z_iconst X dX2_readWhole_51 ?_
      refine z_zreturn (st := []) X rfl hQ dX2_readWhole_52 (by first | exact Or.inl rfl | exact Or.inr rfl | omega) ⟨rfl, _, rfl, ?_⟩
      exact ⟨Or.inr ⟨rfl, by omega, c6, c7⟩, fun a j h => Or.inr (hF a j h h)⟩

/-! The model: wholeOf, nextOf, look -/
theorem zl8_wholeOf {E : zCx} (X : zOK E cX8_wholeOf RX8 5 (some .long) k_X8_wholeOf.2.2.2.2) {A : zA} {q s : Nat} {V D : Int} {m0 : zM} (hA : zmodA A q) (hs : s = 52 ∨ s = 53) (hV : 0 ≤ V) (hD : 0 < D) (hlt : V < D * 4611686018427387904) {P : Int → zM → Prop} (hQ : zRet E (zpl A P) 0 0) (hP : ∀ m', zsl m' q s (V % D) → zsP q (fun x => x = s ∨ x = 55) m0 m' → P (V / D) m') :
    ∀ (r : Nat) (m : zM) (w R : Int), r ≤ 62 → zsl m q 55 (D * ((2 ^ r : Nat) : Int)) → zsl m q s R → 0 ≤ R → R < D * ((2 ^ r : Nat) : Int) → 0 ≤ w → V = w * ((2 ^ r : Nat) : Int) * D + R → zsP q (fun x => x = s ∨ x = 55) m0 m → zW E (0, 0) A m 36 [some (vr q), some (vi (s : Int)), some (vl (w * ((2 ^ r : Nat) : Int))), none, some (vi ((r : Int) - 1))] [] := by
  obtain ⟨⟨hO0, f0, f1, f2, f3, f4, f5, f6, f7, f8, f9, f10, f11, f12, f16, f24, f25⟩, ⟨g1, g2, g3⟩, ⟨g4, g5, g6, g7, g8, g9⟩, ⟨g10, g11, g12, g13⟩, g14, g15, g16⟩ := id hA
  intro r
  induction r with
  | zero =>
    intro m w R hr h55 hR hR0 hR1 hw hVe hF
    simp only [Nat.pow_zero, Int.natCast_one, Int.mul_one] at *
    have e1 : V / D = w := by rw [hVe, Int.add_comm, Int.add_mul_ediv_right _ _ (by omega), Int.ediv_eq_zero_of_lt hR0 hR1, Int.zero_add]
    have e2 : V % D = R := by rw [hVe, Int.add_comm, Int.add_mul_emod_self_right, Int.emod_eq_of_lt hR0 hR1]
    have hP := hP m (by rw [e2]; exact hR) hF
    rw [e1] at hP
    refine z_iload X dX8_wholeOf_36 rfl ?_
    refine z_if_lt X dX8_wholeOf_38 77 (by decide) (by omega) (fun h38 => ?_) (fun h38 => ?_)
    · refine z_lload_n X dX8_wholeOf_77 rfl ?_
      refine z_lreturn (st := []) X rfl hQ dX8_wholeOf_78 ⟨rfl, _, rfl, ?_⟩
      exact hP
    · exact absurd h38 (by omega)
  | succ r ih =>
    intro m w R hr h55 hR hR0 hR1 hw hVe hF
    have hp := zP2 r
    have hp2 : ((2 ^ (r + 1) : Nat) : Int) = ((2 ^ r : Nat) : Int) * 2 := by rw [Nat.pow_succ]; exact Int.natCast_mul _ _
    have hDp : 0 < D * ((2 ^ r : Nat) : Int) := Int.mul_pos hD hp
    have e0 : D * ((2 ^ (r + 1) : Nat) : Int) / 2 = D * ((2 ^ r : Nat) : Int) := by rw [hp2, ← Int.mul_assoc]; omega
    have hwb : w * ((2 ^ (r + 1) : Nat) : Int) < 4611686018427387904 := by
      have h1 : w * ((2 ^ (r + 1) : Nat) : Int) * D < 4611686018427387904 * D := by rw [Int.mul_comm 4611686018427387904]; omega
      exact Int.lt_of_mul_lt_mul_right h1 (by omega)
    have hwb0 : 0 ≤ w * ((2 ^ (r + 1) : Nat) : Int) := Int.mul_nonneg hw (by omega)
    have e2 : w * ((2 ^ (r + 1) : Nat) : Int) = w * 2 * ((2 ^ r : Nat) : Int) := by rw [hp2]; grind
    have e3 : D * ((2 ^ (r + 1) : Nat) : Int) = D * ((2 ^ r : Nat) : Int) * 2 := by rw [hp2]; grind
    refine z_iload X dX8_wholeOf_36 rfl ?_
    refine z_if_lt X dX8_wholeOf_38 77 (by decide) (by omega) (fun h38 => ?_) (fun h38 => ?_)
    · exact absurd h38 (by omega)
    · refine z_aload_n X dX8_wholeOf_41 rfl ?_
      refine z_bipush X dX8_wholeOf_42 (by decide) ?_
      refine z_callVv X (As := [_]) dX8_wholeOf_44 m_X8_half i_X8_half l_X8_182 (c_X8_half (zg E) (s := 55) hA rfl (by omega) h55 (by omega)) (by first | assumption | exact zbigA.o (by assumption)) rfl rfl rfl (Nat.le_of_ble_eq_true rfl) ⟨Nat.le_of_ble_eq_true rfl, Nat.le_of_ble_eq_true rfl⟩ ⟨Nat.le_of_ble_eq_true rfl, Nat.le_of_ble_eq_true rfl⟩ ⟨rfl, rfl⟩ (fun m1 hm1 => ?_)
      obtain ⟨h55, hf⟩ := hm1
      rw [e0] at h55
      have hR := hR.k hf (by omega)
      have hF := hF.k hf (fun x h => by omega)
      refine z_aload_n X dX8_wholeOf_47 rfl ?_
      refine z_iload_n X dX8_wholeOf_48 rfl ?_
      refine z_bipush X dX8_wholeOf_49 (by decide) ?_
      refine z_callVi X (As := [_, _]) dX8_wholeOf_51 m_X8_order i_X8_order l_X8_74 (c_X8_order (zg E) (a := s) (b := 55) hA rfl rfl (by omega) (by omega) hR h55) (by first | assumption | exact zbigA.o (by assumption)) rfl rfl rfl (Nat.le_of_ble_eq_true rfl) ⟨Nat.le_of_ble_eq_true rfl, Nat.le_of_ble_eq_true rfl⟩ ⟨Nat.le_of_ble_eq_true rfl, Nat.le_of_ble_eq_true rfl⟩ ⟨rfl, rfl⟩ (fun r1 m9 hm1 => ?_)
      obtain ⟨rfl, hr1, hr2⟩ := hm1
      refine z_if_lt X dX8_wholeOf_54 71 (by decide) (by omega) (fun h54 => ?_) (fun h54 => ?_)
      · refine z_iinc X dX8_wholeOf_71 rfl (fun y => [_, _, _, _, some (vi y)]) (fun _ => rfl) (fun k hk => ?_)
        obtain rfl : k = (r : Int) - 1 := by omega
        refine z_goto X dX8_wholeOf_74 36 (by decide) ?_
        rw [e2]
        refine ih m1 (w * 2) R (by omega) h55 hR hR0 (by omega) (by omega) ?_ hF
        rw [hVe, e2]
      · refine z_aload_n X dX8_wholeOf_57 rfl ?_
        refine z_iload_n X dX8_wholeOf_58 rfl ?_
        refine z_bipush X dX8_wholeOf_59 (by decide) ?_
        refine z_callVv X (As := [_, _]) dX8_wholeOf_61 m_X8_lose i_X8_lose l_X8_78 (c_X8_lose (zg E) (s := s) (b := 55) (u := R - D * ((2 ^ r : Nat) : Int)) hA rfl rfl (by omega) (by omega) (by omega) hR h55 (by omega) (by omega)) (by first | assumption | exact zbigA.o (by assumption)) rfl rfl rfl (Nat.le_of_ble_eq_true rfl) ⟨Nat.le_of_ble_eq_true rfl, Nat.le_of_ble_eq_true rfl⟩ ⟨Nat.le_of_ble_eq_true rfl, Nat.le_of_ble_eq_true rfl⟩ ⟨rfl, rfl⟩ (fun m2 hm2 => ?_)
        obtain ⟨hR2, hf⟩ := hm2
        have hF2 := hF.k hf (fun x h => by omega)
        have h552 := h55.k hf (by omega)
        refine z_lload_n X dX8_wholeOf_64 rfl ?_
        refine z_lconst X dX8_wholeOf_65 1 rfl ?_
        refine z_iload X dX8_wholeOf_66 rfl ?_
        refine z_lshl X dX8_wholeOf_68 (r) (((2 ^ r : Nat) : Int)) (by omega) (by omega) rfl ?_
        refine z_lor X dX8_wholeOf_69 (r + 1) w (by omega) rfl ⟨hw, by omega⟩ (by omega) ?_
        refine z_lstore_n X dX8_wholeOf_70 (fun y => [_, _, some (vl y), _, _]) (by decide) (fun _ => rfl) (fun wh hwh => ?_)
        refine z_iinc X dX8_wholeOf_71 rfl (fun y => [_, _, _, _, some (vi y)]) (fun _ => rfl) (fun k hk => ?_)
        obtain rfl : k = (r : Int) - 1 := by omega
        refine z_goto X dX8_wholeOf_74 36 (by decide) ?_
        obtain rfl : wh = (w * 2 + 1) * ((2 ^ r : Nat) : Int) := by rw [hwh, e2, Int.add_mul]
        refine ih m2 (w * 2 + 1) (R - D * ((2 ^ r : Nat) : Int)) (by omega) h552 hR2 (by omega) (by omega) (by omega) ?_ hF2
        rw [hVe, e2]
        grind
theorem c_X8_wholeOf (G : zG) {A : zA} {m : zM} {q s : Nat} {si V D : Int} (hA : zmodA A q) (hsi : si = (s : Int)) (hs : s = 52 ∨ s = 53) (hV : 0 ≤ V) (hD : 0 < D) (hv : zsl m q s V) (hd : zsl m q 54 D) (bD : zle D 19360) : zMet G k_X8_wholeOf [vr q, vi si] A m (zpl A (fun r m' => ((D * 4611686018427387904 ≤ V ∧ r = -1) ∨ (V < D * 4611686018427387904 ∧ r = V / D ∧ zsl m' q s (V % D))) ∧ zsP q (fun x => x = s ∨ x = 55) m m')) := by
  subst hsi
  obtain ⟨⟨hO0, f0, f1, f2, f3, f4, f5, f6, f7, f8, f9, f10, f11, f12, f16, f24, f25⟩, ⟨g1, g2, g3⟩, ⟨g4, g5, g6, g7, g8, g9⟩, ⟨g10, g11, g12, g13⟩, g14, g15, g16⟩ := id hA
  have hF : zsP q (fun x => x = s ∨ x = 55) m m := zsP.rfl'
  refine zMet.of RX8 rfl (by decide +kernel) (Nat.le_of_ble_eq_true rfl) [some (vr q), some (vi (s : Int)), none, none, none] rfl (fun E hG X hQ hNm => ?_)
  subst hG
  refine z_aload_n X dX8_wholeOf_0 rfl ?_
  refine z_bipush X dX8_wholeOf_1 (by decide) ?_
  refine z_bipush X dX8_wholeOf_3 (by decide) ?_
  refine z_callVv X (As := [_, _]) dX8_wholeOf_5 m_X8_copy i_X8_copy l_X8_81 (c_X8_copy (zg E) (a := 54) (b := 55) hA rfl rfl (by omega) (by omega) (by omega) hd) (by first | assumption | exact zbigA.o (by assumption)) rfl rfl rfl (Nat.le_of_ble_eq_true rfl) ⟨Nat.le_of_ble_eq_true rfl, Nat.le_of_ble_eq_true rfl⟩ ⟨Nat.le_of_ble_eq_true rfl, Nat.le_of_ble_eq_true rfl⟩ ⟨rfl, rfl⟩ (fun m1 hm1 => ?_)
  obtain ⟨h55, hf⟩ := hm1
  have hv := hv.k hf (by omega)
  have hF := hF.k hf (fun x h => by omega)
  refine z_aload_n X dX8_wholeOf_8 rfl ?_
  refine z_bipush X dX8_wholeOf_9 (by decide) ?_
  refine z_bipush X dX8_wholeOf_11 (by decide) ?_
  refine z_callVv X (As := [_, _]) dX8_wholeOf_13 m_X8_up i_X8_up l_X8_177 (c_X8_up (zg E) (s := 55) hA rfl (by omega) h55 (by omega) (bD.mono (by omega))) (by first | assumption | exact zbigA.o (by assumption)) rfl rfl rfl (Nat.le_of_ble_eq_true rfl) ⟨Nat.le_of_ble_eq_true rfl, Nat.le_of_ble_eq_true rfl⟩ ⟨Nat.le_of_ble_eq_true rfl, Nat.le_of_ble_eq_true rfl⟩ ⟨rfl, rfl⟩ (fun m2 hm1 => ?_)
  obtain ⟨h55, hf⟩ := hm1
  have hv := hv.k hf (by omega)
  have hF := hF.k hf (fun x h => by omega)
  refine z_aload_n X dX8_wholeOf_16 rfl ?_
  refine z_iload_n X dX8_wholeOf_17 rfl ?_
  refine z_bipush X dX8_wholeOf_18 (by decide) ?_
  refine z_callVi X (As := [_, _]) dX8_wholeOf_20 m_X8_order i_X8_order l_X8_74 (c_X8_order (zg E) (a := s) (b := 55) hA rfl rfl (by omega) (by omega) hv h55) (by first | assumption | exact zbigA.o (by assumption)) rfl rfl rfl (Nat.le_of_ble_eq_true rfl) ⟨Nat.le_of_ble_eq_true rfl, Nat.le_of_ble_eq_true rfl⟩ ⟨Nat.le_of_ble_eq_true rfl, Nat.le_of_ble_eq_true rfl⟩ ⟨rfl, rfl⟩ (fun r1 m9 hm1 => ?_)
  obtain ⟨rfl, hr1, hr2⟩ := hm1
  refine z_if_lt X dX8_wholeOf_23 30 (by decide) (by omega) (fun h23 => ?_) (fun h23 => ?_)
  · refine z_lconst X dX8_wholeOf_30 0 rfl ?_
    refine z_lstore_n X dX8_wholeOf_31 (fun y => [_, _, some (vl y), _, _]) (by decide) (fun _ => rfl) (fun x2_31 hx2_31 => ?_)
    subst hx2_31
    refine z_bipush X dX8_wholeOf_32 (by decide) ?_
    refine z_istore X dX8_wholeOf_34 (fun y => [_, _, _, _, some (vi y)]) (by decide) (fun _ => rfl) (fun x4_34 hx4_34 => ?_)
    subst hx4_34
    have e62 : ((2 ^ 62 : Nat) : Int) = 4611686018427387904 := by decide
    have h := zl8_wholeOf X hA hs hV hD (by omega) hQ (fun m' g1 g2 => ⟨Or.inr ⟨by omega, rfl, g1⟩, hF.t g2⟩) 62 m2 0 V (by omega) (by rw [e62]; exact h55) hv hV (by rw [e62]; omega) (by omega) (by rw [Int.zero_mul, Int.zero_mul, Int.zero_add]) zsP.rfl'
    rw [Int.zero_mul] at h
    exact h
  · refine z_ldc2 X dX8_wholeOf_26 q_X8_180 (-1) (by decide) ?_
    refine z_lreturn (st := []) X rfl hQ dX8_wholeOf_29 ⟨rfl, _, rfl, ?_⟩
    exact ⟨Or.inl ⟨by omega, rfl⟩, hF⟩
theorem zl8_nextOf {E : zCx} (X : zOK E cX8_nextOf RX8 4 (some .int) k_X8_nextOf.2.2.2.2) {A : zA} {q s : Nat} {D bs : Int} {m0 : zM} (hA : zmodA A q) (hs : s = 52 ∨ s = 53) (hD : 0 < D) {R : Int} {P : Int → zM → Prop} (hQ : zRet E (zpi A P) 0 0) (hP : ∀ m', zsl m' q s (R % D) → zsP q (fun x => x = s) m0 m' → P (R / D) m') :
    ∀ (n : Nat) (m : zM) (f Y : Int), 0 ≤ Y → Y < (n : Int) * D → zsl m q s Y → zsl m q 54 D → R = f * D + Y → (0 ≤ f ∧ f + n ≤ 100) → zsP q (fun x => x = s) m0 m → zW E (0, 0) A m 8 [some (vr q), some (vi (s : Int)), some (vi bs), some (vi f)] [] := by
  obtain ⟨⟨hO0, f0, f1, f2, f3, f4, f5, f6, f7, f8, f9, f10, f11, f12, f16, f24, f25⟩, ⟨g1, g2, g3⟩, ⟨g4, g5, g6, g7, g8, g9⟩, ⟨g10, g11, g12, g13⟩, g14, g15, g16⟩ := id hA
  intro n
  induction n with
  | zero =>
    intro m f Y h0 h1 h2 h3 h4 h5 hF
    simp only [Int.natCast_zero, Int.zero_mul] at h1
    omega
  | succ n ih =>
    intro m f Y h0 h1 h2 h3 h4 h5 hF
    have h1' : ((n + 1 : Nat) : Int) * D = (n : Int) * D + D := by rw [Int.natCast_succ, Int.add_mul, Int.one_mul]
    refine z_aload_n X dX8_nextOf_8 rfl ?_
    refine z_iload_n X dX8_nextOf_9 rfl ?_
    refine z_bipush X dX8_nextOf_10 (by decide) ?_
    refine z_callVi X (As := [_, _]) dX8_nextOf_12 m_X8_order i_X8_order l_X8_74 (c_X8_order (zg E) (a := s) (b := 54) hA rfl rfl (by omega) (by omega) h2 h3) (by first | assumption | exact zbigA.o (by assumption)) rfl rfl rfl (Nat.le_of_ble_eq_true rfl) ⟨Nat.le_of_ble_eq_true rfl, Nat.le_of_ble_eq_true rfl⟩ ⟨Nat.le_of_ble_eq_true rfl, Nat.le_of_ble_eq_true rfl⟩ ⟨rfl, rfl⟩ (fun r1 m9 hm1 => ?_)
    obtain ⟨rfl, hr1, hr2⟩ := hm1
    refine z_if_lt X dX8_nextOf_15 31 (by decide) (by omega) (fun h15 => ?_) (fun h15 => ?_)
    · refine z_iload_n X dX8_nextOf_31 rfl ?_
      refine z_ireturn (st := []) X rfl hQ dX8_nextOf_32 ⟨rfl, _, rfl, ?_⟩
      have hY : Y < D := by omega
      have e1 : R / D = f := by rw [h4, Int.add_comm, Int.add_mul_ediv_right _ _ (by omega), Int.ediv_eq_zero_of_lt h0 hY, Int.zero_add]
      have e2 : R % D = Y := by rw [h4, Int.add_comm, Int.add_mul_emod_self_right, Int.emod_eq_of_lt h0 hY]
      have hP := hP m (by rw [e2]; exact h2) hF
      rw [e1] at hP
      exact hP
    · refine z_aload_n X dX8_nextOf_18 rfl ?_
      refine z_iload_n X dX8_nextOf_19 rfl ?_
      refine z_bipush X dX8_nextOf_20 (by decide) ?_
      refine z_callVv X (As := [_, _]) dX8_nextOf_22 m_X8_lose i_X8_lose l_X8_78 (c_X8_lose (zg E) (s := s) (b := 54) (u := Y - D) hA rfl rfl (by omega) (by omega) (by omega) h2 h3 (by omega) (by omega)) (by first | assumption | exact zbigA.o (by assumption)) rfl rfl rfl (Nat.le_of_ble_eq_true rfl) ⟨Nat.le_of_ble_eq_true rfl, Nat.le_of_ble_eq_true rfl⟩ ⟨Nat.le_of_ble_eq_true rfl, Nat.le_of_ble_eq_true rfl⟩ ⟨rfl, rfl⟩ (fun m2 hm2 => ?_)
      obtain ⟨h2, hf⟩ := hm2
      have h3 := h3.k hf (by omega)
      have hF := hF.k hf (fun x h => by omega)
      refine z_iinc X dX8_nextOf_25 rfl (fun y => [_, _, _, some (vi y)]) (fun _ => rfl) (fun g hg => ?_)
      refine z_goto X dX8_nextOf_28 8 (by decide) ?_
      refine ih m2 g (Y - D) (by omega) (by omega) h2 h3 ?_ (by omega) hF
      rw [h4, hg, Int.add_mul, Int.one_mul]
      omega
theorem c_X8_nextOf (G : zG) {A : zA} {m : zM} {q s : Nat} {si b R D : Int} (hA : zmodA A q) (hsi : si = (s : Int)) (hs : s = 52 ∨ s = 53) (hD : 0 < D) (hR0 : 0 ≤ R) (hR1 : R < D) (hb : 2 ≤ b ∧ b ≤ 36) (hv : zsl m q s R) (hd : zsl m q 54 D) (bR : zle R 30000) : zMet G k_X8_nextOf [vr q, vi si, vi b] A m (zpi A (fun r m' => r = R * b / D ∧ zsl m' q s (R * b % D) ∧ zsP q (fun x => x = s) m m')) := by
  subst hsi
  obtain ⟨⟨hO0, f0, f1, f2, f3, f4, f5, f6, f7, f8, f9, f10, f11, f12, f16, f24, f25⟩, ⟨g1, g2, g3⟩, ⟨g4, g5, g6, g7, g8, g9⟩, ⟨g10, g11, g12, g13⟩, g14, g15, g16⟩ := id hA
  have bb : zle b 20 := zle_mil (by omega)
  have h0 : 0 ≤ R * b := Int.mul_nonneg hR0 (by omega)
  have h1 : R * b < b * D := by rw [Int.mul_comm b]; exact Int.mul_lt_mul_of_pos_right hR1 (by omega)
  refine zMet.of RX8 rfl (by decide +kernel) (Nat.le_of_ble_eq_true rfl) [some (vr q), some (vi (s : Int)), some (vi b), none] rfl (fun E hG X hQ hNm => ?_)
  subst hG
  refine z_aload_n X dX8_nextOf_0 rfl ?_
  refine z_iload_n X dX8_nextOf_1 rfl ?_
  refine z_iload_n X dX8_nextOf_2 rfl ?_
  refine z_callVv X (As := [_, _]) dX8_nextOf_3 m_X8_times i_X8_times l_X8_137 (c_X8_times (zg E) (s := s) hA rfl (by omega) (by omega) hv ((bR.mul bb).mono (by omega))) (by first | assumption | exact zbigA.o (by assumption)) rfl rfl rfl (Nat.le_of_ble_eq_true rfl) ⟨Nat.le_of_ble_eq_true rfl, Nat.le_of_ble_eq_true rfl⟩ ⟨Nat.le_of_ble_eq_true rfl, Nat.le_of_ble_eq_true rfl⟩ ⟨rfl, rfl⟩ (fun m1 hm1 => ?_)
  obtain ⟨hv, hf⟩ := hm1
  have hd := hd.k hf (by omega)
  refine z_iconst X dX8_nextOf_6 ?_
  refine z_istore_n X dX8_nextOf_7 (fun y => [_, _, _, some (vi y)]) (by decide) (fun _ => rfl) (fun x3_7 hx3_7 => ?_)
  subst hx3_7
  refine zl8_nextOf X hA hs hD hQ (fun m' g1 g2 => ⟨rfl, g1, hf.t g2⟩) b.toNat m1 0 (R * b) h0 (by rw [Int.toNat_of_nonneg (by omega)]; exact h1) hv hd (by omega) (by omega) zsP.rfl'
theorem znext {X D b : Int} (hD : 0 < D) (hb : 2 ≤ b) (s : Nat) : X * b ^ s % D * b / D = zfg X D b s ∧ X * b ^ s % D * b % D = X * b ^ (s + 1) % D := by
  unfold zfg
  rw [Int.pow_succ, ← Int.mul_assoc]
  generalize X * b ^ s = Y
  have h0 := Int.emod_nonneg Y (by omega : D ≠ 0)
  have h1 := Int.emod_lt_of_pos Y hD
  have h2 := Int.emod_add_mul_ediv Y D
  have e : Y * b = Y % D * b + D * (Y / D * b) := by
    have h3 : (Y % D + D * (Y / D)) * b = Y * b := by rw [h2]
    rw [← h3]; grind
  have g0 : 0 ≤ Y % D * b := Int.mul_nonneg h0 (by omega)
  have g1 : Y % D * b < b * D := by rw [Int.mul_comm b]; exact Int.mul_lt_mul_of_pos_right h1 (by omega)
  have g2 : 0 ≤ Y % D * b / D := Int.ediv_nonneg g0 (by omega)
  have g3 : Y % D * b / D < b := Int.ediv_lt_of_lt_mul hD g1
  constructor
  · rw [e, Int.add_mul_ediv_left _ _ (by omega), Int.add_mul_emod_self_right, Int.emod_eq_of_lt g2 g3]
  · rw [e, Int.add_mul_emod_self_left]
def zmnow (m : zM) (q : Nat) (x : zRv) : Prop := m q 13 = x.1 ∧ m q 14 = x.2.2.2.1 ∧ m q 15 = x.2.1 ∧ ∀ j, j < x.2.2.1 → m (q + 14) j = x.2.2.2.2 j
theorem ztold_now {m : zM} {q s n : Nat} {L H D b : Int} (h : ztold L H D b n (m q 13) (m q 15) s (m q 14) (m (q + 14))) : zmnow m q (zrd L H D b n) := by
  obtain ⟨h1, h⟩ := h
  unfold zrd
  rcases h with ⟨g1, g2, g3, g4⟩ | ⟨g1, g2, g3, g4, g5, g6, g7⟩
  · rw [if_pos (by rw [← h1]; exact g1)]
    exact ⟨h1, g4, g2, fun j hj => absurd hj (Nat.not_lt_zero j)⟩
  · rw [if_neg (by rw [← h1]; intro h; rcases h with h | h | h <;> omega)]
    have e := zsame_unique g6 (zscf_same (da := zfg (zlo L H) D b) (db := zfg (zhi L H) D b) n 0 (fun i hi => absurd hi (Nat.not_lt_zero i)) |> fun h => by rw [Nat.zero_add] at h; exact h)
    subst e
    exact ⟨h1, g4, g5, g7⟩
/-- what look changes -/
def zlkf (q : Nat) (m m' : zM) : Prop := (∀ a j, (a < q ∨ q + 3 < a) → a ≠ q + 14 → m' a j = m a j) ∧ (∀ j, ¬ (13 ≤ j ∧ j ≤ 15) → m' q j = m q j) ∧ ∀ x, x < 52 → zSq q x m m'
theorem zlkf.r {q : Nat} {m : zM} : zlkf q m m := ⟨fun _ _ _ _ => rfl, fun _ _ => rfl, fun _ _ => ⟨rfl, rfl, fun _ _ => rfl⟩⟩
theorem zlkf.k {q : Nat} {S : Nat → Prop} {m m1 m2 : zM} (h : zlkf q m m1) (hf : zsP q S m1 m2) (hd : ∀ x, S x → 52 ≤ x) : zlkf q m m2 := ⟨fun a j h1 h2 => (hf.1 a j (by omega)).trans (h.1 a j h1 h2), fun j hj => (hf.1 q j (by omega)).trans (h.2.1 j hj), fun x hx => (h.2.2 x hx).t (hf.2 x (fun g => absurd (hd x g) (by omega)))⟩
theorem zlkf.wq {q k : Nat} {m m1 : zM} {v : Int} (h : zlkf q m m1) (hk : 13 ≤ k ∧ k ≤ 15) : zlkf q m (zms m1 q k v) := ⟨fun a j h1 h2 => (zms_ne _ _ _ _ (by omega)).trans (h.1 a j h1 h2), fun j hj => (zms_nk _ _ _ _ _ (by omega)).trans (h.2.1 j hj), fun x hx => (h.2.2 x hx).t (zSq_nq (by omega))⟩
theorem zlkf.wn {q k : Nat} {m m1 : zM} {v : Int} (h : zlkf q m m1) : zlkf q m (zms m1 (q + 14) k v) := ⟨fun a j h1 h2 => (zms_nq _ _ _ _ _ h2).trans (h.1 a j h1 h2), fun j hj => (zms_nq _ _ _ _ _ (by omega)).trans (h.2.1 j hj), fun x hx => (h.2.2 x hx).t (zSq_nq (by omega))⟩
theorem zlkf.w3 {q s : Nat} {m m1 : zM} {v : Int} (h : zlkf q m m1) (hs : 52 ≤ s) : zlkf q m (zms m1 (q + 3) s v) := h.k ((zsP.rfl' (S := fun x => 52 ≤ x)).w3 hs) (fun x hx => hx)
theorem zlkf.mm {q : Nat} {m m' : zM} (h : zlkf q m m') : zmm q m m' := fun a j ha => h.1 a j (by omega) (by omega)
theorem zl8_flag0 {E : zCx} {rm : Room} {cs : Nat × Nat} {A : zA} {m : zM} (X : zOK E cX8_look RX8 13 none rm) {fl : Int} {v0 v1 v2 v3 v4 v5 v6 l7 l8 l9 l10 l12 : Option Value} (h : fl = 0) (K : zW E cs A m 246 [v0, v1, v2, v3, v4, v5, v6, l7, l8, l9, l10, some (vi fl), l12] []) : zW E cs A m 176 [v0, v1, v2, v3, v4, v5, v6, l7, l8, l9, l10, some (vi fl), l12] [] := by
  refine z_iload X dX8_look_176 rfl ?_
  refine z_if_eq X dX8_look_178 246 (by decide) (by omega) (fun h178 => ?_) (fun h178 => ?_)
  · exact K
  · exact absurd h h178
theorem zl8_digits {E : zCx} {rm : Room} (hroom : rm = k_X8_look.2.2.2.2) (X : zOK E cX8_look RX8 13 none rm) {A : zA} {q k n N : Nat} {x5 x6 a9 a7 b LL HH D : Int} {m0 : zM} (hA : zmodA A q) (hn : n ≤ 100) (hb : 2 ≤ b ∧ b ≤ 36) (hD : 0 < D) (bD : zle D 19360)
    (K : ∀ (m' : zM) (s : Nat), zsame (zfg LL D b) (zfg HH D b) n s → m' q 15 = (s : Int) → (∀ j, j < s → m' (q + 14) j = zfg LL D b j) → (∀ j, j ≠ 15 → m' q j = m0 q j) → zlkf q m0 m' → ∀ (x11 : Int) (l12 : Option Value), zW E (0, 0) A m' 246 [some (vr q), some (vi (k : Int)), some (vi b), some (vi (n : Int)), some (vi (N : Int)), some (vi x5), some (vi x6), some (vl a7), none, some (vl a9), none, some (vi x11), l12] []) :
    ∀ (r s : Nat) (m : zM) (fl : Int) (l12 : Option Value), s + r = n → ((fl = 1) ∨ (fl = 0 ∧ zfg LL D b s ≠ zfg HH D b s)) → (fl = 1 → zsl m q 52 (LL * b ^ s % D) ∧ zsl m q 53 (HH * b ^ s % D) ∧ zsl m q 54 D) → m q 15 = (s : Int) → (∀ j, j < s → zfg LL D b j = zfg HH D b j ∧ m (q + 14) j = zfg LL D b j) → (∀ j, j ≠ 15 → m q j = m0 q j) → zlkf q m0 m → zW E (0, 0) A m 176 [some (vr q), some (vi (k : Int)), some (vi b), some (vi (n : Int)), some (vi (N : Int)), some (vi x5), some (vi x6), some (vl a7), none, some (vl a9), none, some (vi fl), l12] [] := by
  subst hroom
  obtain ⟨⟨hO0, f0, f1, f2, f3, f4, f5, f6, f7, f8, f9, f10, f11, f12, f16, f24, f25⟩, ⟨g1, g2, g3⟩, ⟨g4, g5, g6, g7, g8, g9⟩, ⟨g10, g11, g12, g13⟩, g14, g15, g16⟩ := id hA
  have fin : ∀ (r s : Nat) (m : zM) (fl : Int) (l12 : Option Value), s + r = n → (fl = 0 ∨ r = 0) → ((fl = 1) ∨ (fl = 0 ∧ zfg LL D b s ≠ zfg HH D b s)) → m q 15 = (s : Int) → (∀ j, j < s → zfg LL D b j = zfg HH D b j ∧ m (q + 14) j = zfg LL D b j) → (∀ j, j ≠ 15 → m q j = m0 q j) → zlkf q m0 m → zW E (0, 0) A m 246 [some (vr q), some (vi (k : Int)), some (vi b), some (vi (n : Int)), some (vi (N : Int)), some (vi x5), some (vi x6), some (vl a7), none, some (vl a9), none, some (vi fl), l12] [] := fun r s m fl l12 hs hr hfl h15 hj hq hF => K m s ⟨by omega, fun j g => (hj j g).1, by rcases hfl with h | h; exact Or.inl (by omega); exact Or.inr h.2⟩ h15 (fun j g => (hj j g).2) hq hF fl l12
  intro r
  induction r with
  | zero =>
    intro s m fl l12 hs hfl h4 h15 hj hq hF
    have hfl01 : fl = 0 ∨ fl = 1 := by rcases hfl with h | h <;> omega
    refine z_iload X dX8_look_176 rfl ?_
    refine z_if_eq X dX8_look_178 246 (by decide) (by omega) (fun h178 => ?_) (fun h178 => ?_)
    · exact fin 0 s m fl _ hs (Or.inr rfl) hfl h15 hj hq hF
    · refine z_aload_n X dX8_look_181 rfl ?_
      refine z_getI X dX8_look_182 f_X8_192 rfl (by first | assumption | exact zbigA.o (by assumption)) ?_
      refine z_iload_n X dX8_look_185 rfl ?_
      refine z_icmp_ge X dX8_look_186 246 (by decide) (by omega) (by omega) (fun h186 => ?_) (fun h186 => ?_)
      · exact fin 0 s m fl _ hs (Or.inr rfl) hfl h15 hj hq hF
      · exact absurd h186 (by omega)
  | succ r ih =>
    intro s m fl l12 hs hfl h4 h15 hj hq hF
    have hfl01 : fl = 0 ∨ fl = 1 := by rcases hfl with h | h <;> omega
    refine z_iload X dX8_look_176 rfl ?_
    refine z_if_eq X dX8_look_178 246 (by decide) (by omega) (fun h178 => ?_) (fun h178 => ?_)
    · exact fin (r + 1) s m fl _ hs (Or.inl (by omega)) hfl h15 hj hq hF
    · refine z_aload_n X dX8_look_181 rfl ?_
      refine z_getI X dX8_look_182 f_X8_192 rfl (by first | assumption | exact zbigA.o (by assumption)) ?_
      refine z_iload_n X dX8_look_185 rfl ?_
      refine z_icmp_ge X dX8_look_186 246 (by decide) (by omega) (by omega) (fun h186 => ?_) (fun h186 => ?_)
      · exact absurd h186 (by omega)
      · obtain ⟨h52, h53, h54⟩ := h4 (by omega)
        have l0 := Int.emod_nonneg (LL * b ^ s) (by omega : D ≠ 0)
        have l1 := Int.emod_lt_of_pos (LL * b ^ s) hD
        have g0 := Int.emod_nonneg (HH * b ^ s) (by omega : D ≠ 0)
        have g1' := Int.emod_lt_of_pos (HH * b ^ s) hD
        have bl : zle (LL * b ^ s % D) 30000 := by have := bD.mono (b := 30000) (by omega); unfold zle at *; omega
        have bg : zle (HH * b ^ s % D) 30000 := by have := bD.mono (b := 30000) (by omega); unfold zle at *; omega
        obtain ⟨n1, n2⟩ := znext (X := LL) hD hb.1 s
        obtain ⟨p1, p2⟩ := znext (X := HH) hD hb.1 s
        have d1 := zdg_bd (l := LL) (D := D) hb s
        have d2 := zdg_bd (l := HH) (D := D) hb s
        refine z_aload_n X dX8_look_189 rfl ?_
        refine z_bipush X dX8_look_190 (by decide) ?_
        refine z_iload_n X dX8_look_192 rfl ?_
        refine z_callVi X (As := [_, _]) dX8_look_193 m_X8_nextOf i_X8_nextOf l_X8_202 (c_X8_nextOf (zg E) (s := 52) hA rfl (Or.inl rfl) hD l0 l1 hb h52 h54 bl) (by first | assumption | exact zbigA.o (by assumption)) rfl rfl rfl (Nat.le_of_ble_eq_true rfl) ⟨Nat.le_of_ble_eq_true rfl, Nat.le_of_ble_eq_true rfl⟩ ⟨Nat.le_of_ble_eq_true rfl, Nat.le_of_ble_eq_true rfl⟩ ⟨rfl, rfl⟩ (fun r1 m1 hm1 => ?_)
        obtain ⟨hr1, h52, hf⟩ := hm1
        have h53 := h53.k hf (by omega)
        have h54 := h54.k hf (by omega)
        have hF := hF.k hf (fun x h => by omega)
        rw [n1] at hr1
        rw [n2] at h52
        have h15 : m1 q 15 = (s : Int) := (hf.1 _ _ (by omega)).trans h15
        have hj : ∀ j, j < s → zfg LL D b j = zfg HH D b j ∧ m1 (q + 14) j = zfg LL D b j := fun j g => ⟨(hj j g).1, (hf.1 _ _ (by omega)).trans (hj j g).2⟩
        have hq : ∀ j, j ≠ 15 → m1 q j = m0 q j := fun j g => (hf.1 _ _ (by omega)).trans (hq j g)
        refine z_istore X dX8_look_196 (fun y => [_, _, _, _, _, _, _, _, _, _, _, _, some (vi y)]) (by decide) (fun _ => rfl) (fun f hf1 => ?_)
        refine z_iload X dX8_look_198 rfl ?_
        refine z_aload_n X dX8_look_200 rfl ?_
        refine z_bipush X dX8_look_201 (by decide) ?_
        refine z_iload_n X dX8_look_203 rfl ?_
        refine z_callVi X (As := [_, _]) dX8_look_204 m_X8_nextOf i_X8_nextOf l_X8_202 (c_X8_nextOf (zg E) (s := 53) hA rfl (Or.inr rfl) hD g0 g1' hb h53 h54 bg) (by first | assumption | exact zbigA.o (by assumption)) rfl rfl rfl (Nat.le_of_ble_eq_true rfl) ⟨Nat.le_of_ble_eq_true rfl, Nat.le_of_ble_eq_true rfl⟩ ⟨Nat.le_of_ble_eq_true rfl, Nat.le_of_ble_eq_true rfl⟩ ⟨rfl, rfl⟩ (fun r2 m2 hm2 => ?_)
        obtain ⟨hr2, h53, hf⟩ := hm2
        have h52 := h52.k hf (by omega)
        have h54 := h54.k hf (by omega)
        have hF := hF.k hf (fun x h => by omega)
        rw [p1] at hr2
        rw [p2] at h53
        have h15 : m2 q 15 = (s : Int) := (hf.1 _ _ (by omega)).trans h15
        have hj : ∀ j, j < s → zfg LL D b j = zfg HH D b j ∧ m2 (q + 14) j = zfg LL D b j := fun j g => ⟨(hj j g).1, (hf.1 _ _ (by omega)).trans (hj j g).2⟩
        have hq : ∀ j, j ≠ 15 → m2 q j = m0 q j := fun j g => (hf.1 _ _ (by omega)).trans (hq j g)
        refine z_icmp_ne X dX8_look_207 214 (by decide) (by omega) (by omega) (fun h207 => ?_) (fun h207 => ?_)
        · refine z_iconst X dX8_look_214 ?_
          refine z_istore X dX8_look_215 (fun y => [_, _, _, _, _, _, _, _, _, _, _, some (vi y), _]) (by decide) (fun _ => rfl) (fun fl2 hfl2 => ?_)
          refine z_iload X dX8_look_217 rfl ?_
          refine z_if_eq X dX8_look_219 243 (by decide) (by omega) (fun h219 => ?_) (fun h219 => ?_)
          · refine z_goto X dX8_look_243 176 (by decide) ?_
            first
            | (exfalso; omega)
            | (have := fin (r + 1) s m2 fl2 (some (vi f)) hs (Or.inl (by omega)) (Or.inr ⟨by omega, by omega⟩) h15 hj hq hF
               exact zl8_flag0 X (by omega) this)
            | (refine ih (s + 1) _ fl2 _ (by omega) (Or.inl (by omega)) (fun _ => ⟨(h52.w (by omega)).w (by omega), (h53.w (by omega)).w (by omega), (h54.w (by omega)).w (by omega)⟩) (by rw [zms_same]; omega) (fun j g => ?_) (fun j g => by rw [zms_nk _ _ _ _ _ g, zms_nq _ _ _ _ _ (by omega)]; exact hq j g) (hF.wn.wq (by omega))
               by_cases hjs : j = s
               · subst hjs
                 exact ⟨by omega, by rw [zms_nq _ _ _ _ _ (by omega), zms_same]; omega⟩
               · exact ⟨(hj j (by omega)).1, by rw [zms_nq _ _ _ _ _ (by omega), zms_nk _ _ _ _ _ hjs]; exact (hj j (by omega)).2⟩)
          · refine z_aload_n X dX8_look_222 rfl ?_
            refine z_getR X dX8_look_223 f_X8_51 rfl (by first | assumption | exact zbigA.o (by assumption)) (by assumption) ?_
            refine z_aload_n X dX8_look_226 rfl ?_
            refine z_getI X dX8_look_227 f_X8_192 rfl (by first | assumption | exact zbigA.o (by assumption)) ?_
            refine z_iload X dX8_look_230 rfl ?_
            refine z_iast X (s) dX8_look_232 (by omega) (by assumption) (by omega) (by omega) ?_
            refine z_aload_n X dX8_look_233 rfl ?_
            refine z_dup X dX8_look_234 rfl ?_
            refine z_getI X dX8_look_235 f_X8_192 rfl (by first | assumption | exact zbigA.o (by assumption)) ?_
            rw [zms_nq _ _ _ _ _ (by omega), h15]
            refine z_iconst X dX8_look_238 ?_
            refine z_iadd X dX8_look_239 ?_
            refine z_putI X dX8_look_240 f_X8_192 rfl rfl (by first | assumption | exact zbigA.o (by assumption)) ?_
            refine z_goto X dX8_look_243 176 (by decide) ?_
            first
            | (exfalso; omega)
            | (have := fin (r + 1) s m2 fl2 (some (vi f)) hs (Or.inl (by omega)) (Or.inr ⟨by omega, by omega⟩) h15 hj hq hF
               exact zl8_flag0 X (by omega) this)
            | (refine ih (s + 1) _ fl2 _ (by omega) (Or.inl (by omega)) (fun _ => ⟨(h52.w (by omega)).w (by omega), (h53.w (by omega)).w (by omega), (h54.w (by omega)).w (by omega)⟩) (by rw [zms_same]; omega) (fun j g => ?_) (fun j g => by rw [zms_nk _ _ _ _ _ g, zms_nq _ _ _ _ _ (by omega)]; exact hq j g) (hF.wn.wq (by omega))
               by_cases hjs : j = s
               · subst hjs
                 exact ⟨by omega, by rw [zms_nq _ _ _ _ _ (by omega), zms_same]; omega⟩
               · exact ⟨(hj j (by omega)).1, by rw [zms_nq _ _ _ _ _ (by omega), zms_nk _ _ _ _ _ hjs]; exact (hj j (by omega)).2⟩)
        · refine z_iconst X dX8_look_210 ?_
          refine z_goto X dX8_look_211 215 (by decide) ?_
          refine z_istore X dX8_look_215 (fun y => [_, _, _, _, _, _, _, _, _, _, _, some (vi y), _]) (by decide) (fun _ => rfl) (fun fl2 hfl2 => ?_)
          refine z_iload X dX8_look_217 rfl ?_
          refine z_if_eq X dX8_look_219 243 (by decide) (by omega) (fun h219 => ?_) (fun h219 => ?_)
          · refine z_goto X dX8_look_243 176 (by decide) ?_
            first
            | (exfalso; omega)
            | (have := fin (r + 1) s m2 fl2 (some (vi f)) hs (Or.inl (by omega)) (Or.inr ⟨by omega, by omega⟩) h15 hj hq hF
               exact zl8_flag0 X (by omega) this)
            | (refine ih (s + 1) _ fl2 _ (by omega) (Or.inl (by omega)) (fun _ => ⟨(h52.w (by omega)).w (by omega), (h53.w (by omega)).w (by omega), (h54.w (by omega)).w (by omega)⟩) (by rw [zms_same]; omega) (fun j g => ?_) (fun j g => by rw [zms_nk _ _ _ _ _ g, zms_nq _ _ _ _ _ (by omega)]; exact hq j g) (hF.wn.wq (by omega))
               by_cases hjs : j = s
               · subst hjs
                 exact ⟨by omega, by rw [zms_nq _ _ _ _ _ (by omega), zms_same]; omega⟩
               · exact ⟨(hj j (by omega)).1, by rw [zms_nq _ _ _ _ _ (by omega), zms_nk _ _ _ _ _ hjs]; exact (hj j (by omega)).2⟩)
          · refine z_aload_n X dX8_look_222 rfl ?_
            refine z_getR X dX8_look_223 f_X8_51 rfl (by first | assumption | exact zbigA.o (by assumption)) (by assumption) ?_
            refine z_aload_n X dX8_look_226 rfl ?_
            refine z_getI X dX8_look_227 f_X8_192 rfl (by first | assumption | exact zbigA.o (by assumption)) ?_
            refine z_iload X dX8_look_230 rfl ?_
            refine z_iast X (s) dX8_look_232 (by omega) (by assumption) (by omega) (by omega) ?_
            refine z_aload_n X dX8_look_233 rfl ?_
            refine z_dup X dX8_look_234 rfl ?_
            refine z_getI X dX8_look_235 f_X8_192 rfl (by first | assumption | exact zbigA.o (by assumption)) ?_
            rw [zms_nq _ _ _ _ _ (by omega), h15]
            refine z_iconst X dX8_look_238 ?_
            refine z_iadd X dX8_look_239 ?_
            refine z_putI X dX8_look_240 f_X8_192 rfl rfl (by first | assumption | exact zbigA.o (by assumption)) ?_
            refine z_goto X dX8_look_243 176 (by decide) ?_
            first
            | (exfalso; omega)
            | (have := fin (r + 1) s m2 fl2 (some (vi f)) hs (Or.inl (by omega)) (Or.inr ⟨by omega, by omega⟩) h15 hj hq hF
               exact zl8_flag0 X (by omega) this)
            | (refine ih (s + 1) _ fl2 _ (by omega) (Or.inl (by omega)) (fun _ => ⟨(h52.w (by omega)).w (by omega), (h53.w (by omega)).w (by omega), (h54.w (by omega)).w (by omega)⟩) (by rw [zms_same]; omega) (fun j g => ?_) (fun j g => by rw [zms_nk _ _ _ _ _ g, zms_nq _ _ _ _ _ (by omega)]; exact hq j g) (hF.wn.wq (by omega))
               by_cases hjs : j = s
               · subst hjs
                 exact ⟨by omega, by rw [zms_nq _ _ _ _ _ (by omega), zms_same]; omega⟩
               · exact ⟨(hj j (by omega)).1, by rw [zms_nq _ _ _ _ _ (by omega), zms_nk _ _ _ _ _ hjs]; exact (hj j (by omega)).2⟩)

/-! The model: constants' parts; the result's readers; the falls of a constant -/
theorem zMR.co {q k : Nat} {m m' : zM} {σ : zSt} {x : Nat × (Nat → zPt)} (h : zMR q m σ) (ho : zStok σ) (hk : k < 4) (hx : zmco m' q k x) (hf : ∀ a j, ¬ (a = q + 10 ∧ j = k) → ¬ ((a = q + 11 ∨ a = q + 12 ∨ a = q + 13) ∧ 4 * k ≤ j ∧ j < 4 * k + 4) → m' a j = m a j) : zMR q m' (wK σ (zup (sK σ) k x)) := by
  obtain ⟨h1, h2, h3, h4, h5⟩ := h
  have hs : ∀ x, zSq q x m m' := fun x => ⟨hf _ _ (by omega) (by omega), hf _ _ (by omega) (by omega), fun _ _ => hf _ _ (by omega) (by omega)⟩
  refine ⟨fun s hs => (h1 s hs).e (fun a j _ _ => hf _ _ (by omega) (by omega)), fun d hd => (h2 d hd).e ⟨hf _ _ (by omega) (by omega), hf _ _ (by omega) (by omega), hf _ _ (by omega) (by omega)⟩ (fun _ _ => hs _), fun c hc => ?_, ⟨(hf _ _ (by omega) (by omega)).trans h4.1, (hf _ _ (by omega) (by omega)).trans h4.2⟩, h5.e (fun j _ => hf _ _ (by omega) (by omega)) (fun j => hf _ _ (by omega) (by omega))⟩
  show zmco m' q c (zup (sK σ) k x c)
  by_cases hck : c = k
  · subst hck
    rw [zup_same]
    exact hx
  · rw [zup_ne _ _ hck]
    obtain ⟨w1, w2⟩ := h3 c hc
    have w4 := (ho.2.2.1 c hc).1
    refine ⟨(hf _ _ (by omega) (by omega)).trans w1, fun i hi => ?_⟩
    obtain ⟨v1, v2, v3⟩ := w2 i hi
    exact ⟨(hf _ _ (by omega) (by omega)).trans v1, (hf _ _ (by omega) (by omega)).trans v2, (hf _ _ (by omega) (by omega)).trans v3⟩
theorem c_X8_part (G : zG) {A : zA} {m : zM} {q : Nat} {σ : zSt} {c s x n : Int} (hA : zmodA A q) (hm : zMR q m σ) (ho : zStok σ) (hc : zi32 c) (hs : zi32 s) (hx : zi32 x) (hn : zi32 n) : zMet G k_X8_part [vr q, vi c, vi s, vi x, vi n] A m (zpi A (fun r m' => zMR q m' (sp_part σ c s x n).2 ∧ zmm q m m' ∧ r = (sp_part σ c s x n).1)) := by
  obtain ⟨⟨hO0, f0, f1, f2, f3, f4, f5, f6, f7, f8, f9, f10, f11, f12, f16, f24, f25⟩, ⟨g1, g2, g3⟩, ⟨g4, g5, g6, g7, g8, g9⟩, ⟨g10, g11, g12, g13⟩, g14, g15, g16⟩ := id hA
  unfold zi32 at hc hs hx hn
  refine zMet.of RX8 rfl (by decide +kernel) (Nat.le_of_ble_eq_true rfl) [some (vr q), some (vi c), some (vi s), some (vi x), some (vi n), none] rfl (fun E hG X hQ hNm => ?_)
  subst hG
  refine z_iload_n X dX8_part_0 rfl ?_
  refine z_callSi X (As := [_]) dX8_part_1 m_X8_isConstant s_X8_isConstant l_X8_168 (c_X8_isConstant (zg E) hc) rfl rfl (Nat.le_of_ble_eq_true rfl) ⟨Nat.le_of_ble_eq_true rfl, Nat.le_of_ble_eq_true rfl⟩ ⟨Nat.le_of_ble_eq_true rfl, Nat.le_of_ble_eq_true rfl⟩ ⟨rfl, rfl⟩ (fun r1 m1 hm1 => ?_)
  obtain ⟨rfl, hr1⟩ := hm1
  refine z_if_eq X dX8_part_4 14 (by decide) (by omega) (fun h4 => ?_) (fun h4 => ?_)
  · refine z_iconst X dX8_part_14 ?_
    refine z_ireturn (st := []) X rfl hQ dX8_part_15 ⟨rfl, _, rfl, ?_⟩
    unfold sp_part
    rw [if_pos (by omega)]
    exact ⟨hm, zmm.r, rfl⟩
  · refine z_iload_n X dX8_part_7 rfl ?_
    refine z_callSi X (As := [_]) dX8_part_8 m_X8_isSum s_X8_isSum l_X8_90 (c_X8_isSum (zg E) hs) rfl rfl (Nat.le_of_ble_eq_true rfl) ⟨Nat.le_of_ble_eq_true rfl, Nat.le_of_ble_eq_true rfl⟩ ⟨Nat.le_of_ble_eq_true rfl, Nat.le_of_ble_eq_true rfl⟩ ⟨rfl, rfl⟩ (fun r2 m1 hm1 => ?_)
    obtain ⟨rfl, hr2⟩ := hm1
    refine z_if_ne X dX8_part_11 16 (by decide) (by omega) (fun h11 => ?_) (fun h11 => ?_)
    · refine z_iload_n X dX8_part_16 rfl ?_
      refine z_i2l X dX8_part_17 (by omega) ?_
      refine z_ldc2 X dX8_part_18 q_X8_171 (-1000000) (by decide) ?_
      refine z_ldc2 X dX8_part_21 q_X8_165 (1000000) (by decide) ?_
      refine z_callSi X (As := [_, _, _]) dX8_part_24 m_X8_in s_X8_in l_X8_86 (c_X8_in (zg E) (by omega) (by omega) (by omega)) rfl rfl (Nat.le_of_ble_eq_true rfl) ⟨Nat.le_of_ble_eq_true rfl, Nat.le_of_ble_eq_true rfl⟩ ⟨Nat.le_of_ble_eq_true rfl, Nat.le_of_ble_eq_true rfl⟩ ⟨rfl, rfl⟩ (fun r3 m1 hm1 => ?_)
      obtain ⟨rfl, hr3⟩ := hm1
      refine z_if_eq X dX8_part_27 43 (by decide) (by omega) (fun h27 => ?_) (fun h27 => ?_)
      · refine z_bipush X dX8_part_43 (by decide) ?_
        refine z_ireturn (st := []) X rfl hQ dX8_part_45 ⟨rfl, _, rfl, ?_⟩
        unfold sp_part
        rw [if_neg (by omega), if_pos (by omega)]
        exact ⟨hm, zmm.r, rfl⟩
      · refine z_iload X dX8_part_30 rfl ?_
        refine z_i2l X dX8_part_32 (by omega) ?_
        refine z_lconst X dX8_part_33 1 rfl ?_
        refine z_ldc2 X dX8_part_34 q_X8_165 (1000000) (by decide) ?_
        refine z_callSi X (As := [_, _, _]) dX8_part_37 m_X8_in s_X8_in l_X8_86 (c_X8_in (zg E) (by omega) (by omega) (by omega)) rfl rfl (Nat.le_of_ble_eq_true rfl) ⟨Nat.le_of_ble_eq_true rfl, Nat.le_of_ble_eq_true rfl⟩ ⟨Nat.le_of_ble_eq_true rfl, Nat.le_of_ble_eq_true rfl⟩ ⟨rfl, rfl⟩ (fun r4 m1 hm1 => ?_)
        obtain ⟨rfl, hr4⟩ := hm1
        refine z_if_ne X dX8_part_40 46 (by decide) (by omega) (fun h40 => ?_) (fun h40 => ?_)
        · obtain ⟨k, rfl⟩ : ∃ k : Nat, c = (k : Int) := ⟨c.toNat, by omega⟩
          obtain ⟨t, rfl⟩ : ∃ t : Nat, s = (t : Int) := ⟨s.toNat, by omega⟩
          obtain ⟨w1, w2⟩ := hm.2.2.1 k (by omega)
          have w4 := (ho.2.2.1 k (by omega)).1
          refine z_aload_n X dX8_part_46 rfl ?_
          refine z_getR X dX8_part_47 f_X8_39 rfl (by first | assumption | exact zbigA.o (by assumption)) (by assumption) ?_
          refine z_iload_n X dX8_part_50 rfl ?_
          refine z_iald X (k) dX8_part_51 (by omega) (by assumption) (by omega) (by omega) ?_
          refine z_iconst X dX8_part_52 ?_
          refine z_icmp_ne X dX8_part_53 59 (by decide) (by omega) (by omega) (fun h53 => ?_) (fun h53 => ?_)
          · refine z_iconst X dX8_part_59 ?_
            refine z_iload_n X dX8_part_60 rfl ?_
            refine z_imul X dX8_part_61 ?_
            refine z_aload_n X dX8_part_62 rfl ?_
            refine z_getR X dX8_part_63 f_X8_39 rfl (by first | assumption | exact zbigA.o (by assumption)) (by assumption) ?_
            refine z_iload_n X dX8_part_66 rfl ?_
            refine z_iald X (k) dX8_part_67 (by omega) (by assumption) (by omega) (by omega) ?_
            refine z_iadd X dX8_part_68 ?_
            refine z_istore X dX8_part_69 (fun y => [_, _, _, _, _, some (vi y)]) (by decide) (fun _ => rfl) (fun a ha => ?_)
            obtain rfl : a = ((4 * k + (sK σ k).1 : Nat) : Int) := by omega
            refine z_aload_n X dX8_part_71 rfl ?_
            refine z_getR X dX8_part_72 f_X8_42 rfl (by first | assumption | exact zbigA.o (by assumption)) (by assumption) ?_
            refine z_iload X dX8_part_75 rfl ?_
            refine z_iload_n X dX8_part_77 rfl ?_
            refine z_iast X (4 * k + (sK σ k).1) dX8_part_78 (by omega) (by assumption) (by omega) (by omega) ?_
            refine z_aload_n X dX8_part_79 rfl ?_
            refine z_getR X dX8_part_80 f_X8_45 rfl (by first | assumption | exact zbigA.o (by assumption)) (by assumption) ?_
            refine z_iload X dX8_part_83 rfl ?_
            refine z_iload_n X dX8_part_85 rfl ?_
            refine z_iast X (4 * k + (sK σ k).1) dX8_part_86 (by omega) (by assumption) (by omega) (by omega) ?_
            refine z_aload_n X dX8_part_87 rfl ?_
            refine z_getR X dX8_part_88 f_X8_48 rfl (by first | assumption | exact zbigA.o (by assumption)) (by assumption) ?_
            refine z_iload X dX8_part_91 rfl ?_
            refine z_iload X dX8_part_93 rfl ?_
            refine z_iast X (4 * k + (sK σ k).1) dX8_part_95 (by omega) (by assumption) (by omega) (by omega) ?_
            refine z_aload_n X dX8_part_96 rfl ?_
            refine z_getR X dX8_part_97 f_X8_39 rfl (by first | assumption | exact zbigA.o (by assumption)) (by assumption) ?_
            refine z_iload_n X dX8_part_100 rfl ?_
            refine z_dup2 X dX8_part_101 rfl rfl ?_
            refine z_iald X (k) dX8_part_102 (by omega) (by assumption) (by omega) (by omega) ?_
            rw [zms_nq _ _ _ _ _ (by omega), zms_nq _ _ _ _ _ (by omega), zms_nq _ _ _ _ _ (by omega), w1]
            refine z_iconst X dX8_part_103 ?_
            refine z_iadd X dX8_part_104 ?_
            refine z_iast X (k) dX8_part_105 (by omega) (by assumption) (by omega) (by omega) ?_
            refine z_aload_n X dX8_part_106 rfl ?_
            refine z_getR X dX8_part_107 f_X8_39 rfl (by first | assumption | exact zbigA.o (by assumption)) (by assumption) ?_
            refine z_iload_n X dX8_part_110 rfl ?_
            refine z_iald X (k) dX8_part_111 (by omega) (by assumption) (by omega) (by omega) ?_
            refine z_ireturn (st := []) X rfl hQ dX8_part_112 ⟨rfl, _, rfl, ?_⟩
            rw [zms_same]
            unfold sp_part
            rw [if_neg (by omega), if_neg (by omega), Int.toNat_natCast, if_neg (by omega), Int.toNat_natCast]
            refine ⟨hm.co ho (by omega) ⟨by rw [zms_same]; show _ = (((sK σ k).1 + 1 : Nat) : Int); omega, fun i hi => ?_⟩ (fun a j h1 h2 => by rw [zms_ne _ _ _ _ (by omega), zms_ne _ _ _ _ (by omega), zms_ne _ _ _ _ (by omega), zms_ne _ _ _ _ (by omega)]), (((zmm.r.w (by omega)).w (by omega)).w (by omega)).w (by omega), rfl⟩
            have hi : i < (sK σ k).1 + 1 := hi
            by_cases hik : i = (sK σ k).1
            · subst hik
              show _ = (((zup (sK σ k).2 (sK σ k).1 (t, x, n)) (sK σ k).1).1 : Int) ∧ _ = ((zup (sK σ k).2 (sK σ k).1 (t, x, n)) (sK σ k).1).2.1 ∧ _ = ((zup (sK σ k).2 (sK σ k).1 (t, x, n)) (sK σ k).1).2.2
              rw [zup_same]
              refine ⟨?_, ?_, ?_⟩
              · rw [zms_nq _ _ _ _ _ (by omega), zms_nq _ _ _ _ _ (by omega), zms_nq _ _ _ _ _ (by omega), zms_same]
              · rw [zms_nq _ _ _ _ _ (by omega), zms_nq _ _ _ _ _ (by omega), zms_same]
              · rw [zms_nq _ _ _ _ _ (by omega), zms_same]
            · show _ = (((zup (sK σ k).2 (sK σ k).1 (t, x, n)) i).1 : Int) ∧ _ = ((zup (sK σ k).2 (sK σ k).1 (t, x, n)) i).2.1 ∧ _ = ((zup (sK σ k).2 (sK σ k).1 (t, x, n)) i).2.2
              rw [zup_ne _ _ hik]
              obtain ⟨v1, v2, v3⟩ := w2 i (by omega)
              refine ⟨?_, ?_, ?_⟩
              · rw [zms_nq _ _ _ _ _ (by omega), zms_nq _ _ _ _ _ (by omega), zms_nq _ _ _ _ _ (by omega), zms_nk _ _ _ _ _ (by omega)]; exact v1
              · rw [zms_nq _ _ _ _ _ (by omega), zms_nq _ _ _ _ _ (by omega), zms_nk _ _ _ _ _ (by omega), zms_nq _ _ _ _ _ (by omega)]; exact v2
              · rw [zms_nq _ _ _ _ _ (by omega), zms_nk _ _ _ _ _ (by omega), zms_nq _ _ _ _ _ (by omega), zms_nq _ _ _ _ _ (by omega)]; exact v3
          · refine z_bipush X dX8_part_56 (by decide) ?_
            refine z_ireturn (st := []) X rfl hQ dX8_part_58 ⟨rfl, _, rfl, ?_⟩
            unfold sp_part
            rw [if_neg (by omega), if_neg (by omega), Int.toNat_natCast, if_pos (by omega)]
            exact ⟨hm, zmm.r, rfl⟩
        · refine z_bipush X dX8_part_43 (by decide) ?_
          refine z_ireturn (st := []) X rfl hQ dX8_part_45 ⟨rfl, _, rfl, ?_⟩
          unfold sp_part
          rw [if_neg (by omega), if_pos (by omega)]
          exact ⟨hm, zmm.r, rfl⟩
    · refine z_iconst X dX8_part_14 ?_
      refine z_ireturn (st := []) X rfl hQ dX8_part_15 ⟨rfl, _, rfl, ?_⟩
      unfold sp_part
      rw [if_pos (by omega)]
      exact ⟨hm, zmm.r, rfl⟩
theorem c_X8_clear (G : zG) {A : zA} {m : zM} {q : Nat} {σ : zSt} {c : Int} (hA : zmodA A q) (hm : zMR q m σ) (ho : zStok σ) (hc : zi32 c) : zMet G k_X8_clear [vr q, vi c] A m (zpi A (fun r m' => zMR q m' (sp_clear σ c).2 ∧ zmm q m m' ∧ r = (sp_clear σ c).1)) := by
  obtain ⟨⟨hO0, f0, f1, f2, f3, f4, f5, f6, f7, f8, f9, f10, f11, f12, f16, f24, f25⟩, ⟨g1, g2, g3⟩, ⟨g4, g5, g6, g7, g8, g9⟩, ⟨g10, g11, g12, g13⟩, g14, g15, g16⟩ := id hA
  unfold zi32 at hc
  refine zMet.of RX8 rfl (by decide +kernel) (Nat.le_of_ble_eq_true rfl) [some (vr q), some (vi c), none] rfl (fun E hG X hQ hNm => ?_)
  subst hG
  refine z_iload_n X dX8_clear_0 rfl ?_
  refine z_callSi X (As := [_]) dX8_clear_1 m_X8_isConstant s_X8_isConstant l_X8_168 (c_X8_isConstant (zg E) hc) rfl rfl (Nat.le_of_ble_eq_true rfl) ⟨Nat.le_of_ble_eq_true rfl, Nat.le_of_ble_eq_true rfl⟩ ⟨Nat.le_of_ble_eq_true rfl, Nat.le_of_ble_eq_true rfl⟩ ⟨rfl, rfl⟩ (fun r1 m1 hm1 => ?_)
  obtain ⟨rfl, hr1⟩ := hm1
  refine z_if_ne X dX8_clear_4 9 (by decide) (by omega) (fun h4 => ?_) (fun h4 => ?_)
  · obtain ⟨k, rfl⟩ : ∃ k : Nat, c = (k : Int) := ⟨c.toNat, by omega⟩
    obtain ⟨w1, w2⟩ := hm.2.2.1 k (by omega)
    refine z_aload_n X dX8_clear_9 rfl ?_
    refine z_getR X dX8_clear_10 f_X8_39 rfl (by first | assumption | exact zbigA.o (by assumption)) (by assumption) ?_
    refine z_iload_n X dX8_clear_13 rfl ?_
    refine z_iald X (k) dX8_clear_14 (by omega) (by assumption) (by omega) (by omega) ?_
    refine z_istore_n X dX8_clear_15 (fun y => [_, _, some (vi y)]) (by decide) (fun _ => rfl) (fun x hx => ?_)
    refine z_aload_n X dX8_clear_16 rfl ?_
    refine z_getR X dX8_clear_17 f_X8_39 rfl (by first | assumption | exact zbigA.o (by assumption)) (by assumption) ?_
    refine z_iload_n X dX8_clear_20 rfl ?_
    refine z_iconst X dX8_clear_21 ?_
    refine z_iast X (k) dX8_clear_22 (by omega) (by assumption) (by omega) (by omega) ?_
    refine z_iload_n X dX8_clear_23 rfl ?_
    refine z_ireturn (st := []) X rfl hQ dX8_clear_24 ⟨rfl, _, rfl, ?_⟩
    unfold sp_clear
    rw [if_neg (by omega), Int.toNat_natCast]
    exact ⟨hm.co ho (by omega) ⟨by rw [zms_same]; rfl, fun i hi => absurd hi (Nat.not_lt_zero i)⟩ (fun a j h1 h2 => zms_ne _ _ _ _ h1), zmm.r.w (by omega), hx.trans w1⟩
  · refine z_iconst X dX8_clear_7 ?_
    refine z_ireturn (st := []) X rfl hQ dX8_clear_8 ⟨rfl, _, rfl, ?_⟩
    unfold sp_clear
    rw [if_pos (by omega)]
    exact ⟨hm, zmm.r, rfl⟩
theorem c_X8_told (G : zG) {A : zA} {m : zM} {q : Nat} {σ : zSt} {c p w : Int} (hA : zmodA A q) (hm : zMR q m σ) (ho : zStok σ) (hc : zi32 c) (hp : zi32 p) (hw : zi32 w) : zMet G k_X8_told [vr q, vi c, vi p, vi w] A m (zpi A (fun r m' => m = m' ∧ r = sp_told σ c p w)) := by
  obtain ⟨⟨hO0, f0, f1, f2, f3, f4, f5, f6, f7, f8, f9, f10, f11, f12, f16, f24, f25⟩, ⟨g1, g2, g3⟩, ⟨g4, g5, g6, g7, g8, g9⟩, ⟨g10, g11, g12, g13⟩, g14, g15, g16⟩ := id hA
  unfold zi32 at hc hp hw
  by_cases hout : ¬ zin c 0 3
  · skip
    refine zMet.of RX8 rfl (by decide +kernel) (Nat.le_of_ble_eq_true rfl) [some (vr q), some (vi c), some (vi p), some (vi w), none] rfl (fun E hG X hQ hNm => ?_)
    subst hG
    refine z_iload_n X dX8_told_0 rfl ?_
    refine z_callSi X (As := [_]) dX8_told_1 m_X8_isConstant s_X8_isConstant l_X8_168 (c_X8_isConstant (zg E) hc) rfl rfl (Nat.le_of_ble_eq_true rfl) ⟨Nat.le_of_ble_eq_true rfl, Nat.le_of_ble_eq_true rfl⟩ ⟨Nat.le_of_ble_eq_true rfl, Nat.le_of_ble_eq_true rfl⟩ ⟨rfl, rfl⟩ (fun r1 m1 hm1 => ?_)
    obtain ⟨rfl, hr1⟩ := hm1
    refine z_if_eq X dX8_told_4 25 (by decide) (by omega) (fun h4 => ?_) (fun h4 => ?_)
    · refine z_ldc X dX8_told_25 q_X8_105 (-1000000001) (by decide) ?_
      refine z_ireturn (st := []) X rfl hQ dX8_told_27 ⟨rfl, _, rfl, ?_⟩
      refine ⟨rfl, ?_⟩
      unfold sp_told
      rw [if_pos (Or.inl hout)]
    · exact absurd h4 (by omega)
  obtain ⟨k, rfl⟩ : ∃ k : Nat, c = (k : Int) := ⟨c.toNat, by omega⟩
  obtain ⟨w1, w2⟩ := hm.2.2.1 k (by omega)
  have w4 := (ho.2.2.1 k (by omega)).1
  refine zMet.of RX8 rfl (by decide +kernel) (Nat.le_of_ble_eq_true rfl) [some (vr q), some (vi (k : Int)), some (vi p), some (vi w), none] rfl (fun E hG X hQ hNm => ?_)
  subst hG
  refine z_iload_n X dX8_told_0 rfl ?_
  refine z_callSi X (As := [_]) dX8_told_1 m_X8_isConstant s_X8_isConstant l_X8_168 (c_X8_isConstant (zg E) hc) rfl rfl (Nat.le_of_ble_eq_true rfl) ⟨Nat.le_of_ble_eq_true rfl, Nat.le_of_ble_eq_true rfl⟩ ⟨Nat.le_of_ble_eq_true rfl, Nat.le_of_ble_eq_true rfl⟩ ⟨rfl, rfl⟩ (fun r1 m1 hm1 => ?_)
  obtain ⟨rfl, hr1⟩ := hm1
  refine z_if_eq X dX8_told_4 25 (by decide) (by omega) (fun h4 => ?_) (fun h4 => ?_)
  · refine z_ldc X dX8_told_25 q_X8_105 (-1000000001) (by decide) ?_
    refine z_ireturn (st := []) X rfl hQ dX8_told_27 ⟨rfl, _, rfl, ?_⟩
    refine ⟨rfl, ?_⟩
    unfold sp_told
    rw [Int.toNat_natCast, if_pos (by omega)]
  · refine z_iload_n X dX8_told_7 rfl ?_
    refine z_i2l X dX8_told_8 (by omega) ?_
    refine z_lconst X dX8_told_9 0 rfl ?_
    refine z_aload_n X dX8_told_10 rfl ?_
    refine z_getR X dX8_told_11 f_X8_39 rfl (by first | assumption | exact zbigA.o (by assumption)) (by assumption) ?_
    refine z_iload_n X dX8_told_14 rfl ?_
    refine z_iald X (k) dX8_told_15 (by omega) (by assumption) (by omega) (by omega) ?_
    refine z_iconst X dX8_told_16 ?_
    refine z_isub X dX8_told_17 ?_
    refine z_i2l X dX8_told_18 (by omega) ?_
    refine z_callSi X (As := [_, _, _]) dX8_told_19 m_X8_in s_X8_in l_X8_86 (c_X8_in (zg E) (by omega) (by omega) (by omega)) rfl rfl (Nat.le_of_ble_eq_true rfl) ⟨Nat.le_of_ble_eq_true rfl, Nat.le_of_ble_eq_true rfl⟩ ⟨Nat.le_of_ble_eq_true rfl, Nat.le_of_ble_eq_true rfl⟩ ⟨rfl, rfl⟩ (fun r2 m1 hm1 => ?_)
    obtain ⟨rfl, hr2⟩ := hm1
    refine z_if_ne X dX8_told_22 28 (by decide) (by omega) (fun h22 => ?_) (fun h22 => ?_)
    · obtain ⟨i, rfl⟩ : ∃ i : Nat, p = (i : Int) := ⟨p.toNat, by omega⟩
      obtain ⟨v1, v2, v3⟩ := w2 i (by omega)
      have sp : sp_told σ (k : Int) (i : Int) w = if ¬ zin w 0 2 then -1000000002 else if w = 0 then (((sK σ k).2 i).1 : Int) else if w = 1 then ((sK σ k).2 i).2.1 else ((sK σ k).2 i).2.2 := by
        unfold sp_told
        rw [Int.toNat_natCast, if_neg (by omega), Int.toNat_natCast]
      refine z_iconst X dX8_told_28 ?_
      refine z_iload_n X dX8_told_29 rfl ?_
      refine z_imul X dX8_told_30 ?_
      refine z_iload_n X dX8_told_31 rfl ?_
      refine z_iadd X dX8_told_32 ?_
      refine z_istore X dX8_told_33 (fun y => [_, _, _, _, some (vi y)]) (by decide) (fun _ => rfl) (fun a ha => ?_)
      obtain rfl : a = ((4 * k + i : Nat) : Int) := by omega
      refine z_iload_n X dX8_told_35 rfl ?_
      refine z_if_ne X dX8_told_36 49 (by decide) (by omega) (fun h36 => ?_) (fun h36 => ?_)
      · refine z_iload_n X dX8_told_49 rfl ?_
        refine z_iconst X dX8_told_50 ?_
        refine z_icmp_ne X dX8_told_51 64 (by decide) (by omega) (by omega) (fun h51 => ?_) (fun h51 => ?_)
        · refine z_iload_n X dX8_told_64 rfl ?_
          refine z_iconst X dX8_told_65 ?_
          refine z_icmp_ne X dX8_told_66 79 (by decide) (by omega) (by omega) (fun h66 => ?_) (fun h66 => ?_)
          · refine z_ldc X dX8_told_79 q_X8_112 (-1000000002) (by decide) ?_
            refine z_ireturn (st := []) X rfl hQ dX8_told_81 ⟨rfl, _, rfl, ?_⟩
            refine ⟨rfl, ?_⟩
            rw [sp]
            first
              | (rw [if_pos (by omega)]; done)
              | (rw [if_neg (by omega), if_pos (by omega)]; exact v1)
              | (rw [if_neg (by omega), if_neg (by omega), if_pos (by omega)]; exact v2)
              | (rw [if_neg (by omega), if_neg (by omega), if_neg (by omega)]; exact v3)
          · refine z_aload_n X dX8_told_69 rfl ?_
            refine z_getR X dX8_told_70 f_X8_48 rfl (by first | assumption | exact zbigA.o (by assumption)) (by assumption) ?_
            refine z_iload X dX8_told_73 rfl ?_
            refine z_iald X (4 * k + i) dX8_told_75 (by omega) (by assumption) (by omega) (by omega) ?_
            refine z_goto X dX8_told_76 81 (by decide) ?_
            refine z_ireturn (st := []) X rfl hQ dX8_told_81 ⟨rfl, _, rfl, ?_⟩
            refine ⟨rfl, ?_⟩
            rw [sp]
            first
              | (rw [if_pos (by omega)]; done)
              | (rw [if_neg (by omega), if_pos (by omega)]; exact v1)
              | (rw [if_neg (by omega), if_neg (by omega), if_pos (by omega)]; exact v2)
              | (rw [if_neg (by omega), if_neg (by omega), if_neg (by omega)]; exact v3)
        · refine z_aload_n X dX8_told_54 rfl ?_
          refine z_getR X dX8_told_55 f_X8_45 rfl (by first | assumption | exact zbigA.o (by assumption)) (by assumption) ?_
          refine z_iload X dX8_told_58 rfl ?_
          refine z_iald X (4 * k + i) dX8_told_60 (by omega) (by assumption) (by omega) (by omega) ?_
          refine z_goto X dX8_told_61 81 (by decide) ?_
          refine z_ireturn (st := []) X rfl hQ dX8_told_81 ⟨rfl, _, rfl, ?_⟩
          refine ⟨rfl, ?_⟩
          rw [sp]
          first
            | (rw [if_pos (by omega)]; done)
            | (rw [if_neg (by omega), if_pos (by omega)]; exact v1)
            | (rw [if_neg (by omega), if_neg (by omega), if_pos (by omega)]; exact v2)
            | (rw [if_neg (by omega), if_neg (by omega), if_neg (by omega)]; exact v3)
      · refine z_aload_n X dX8_told_39 rfl ?_
        refine z_getR X dX8_told_40 f_X8_42 rfl (by first | assumption | exact zbigA.o (by assumption)) (by assumption) ?_
        refine z_iload X dX8_told_43 rfl ?_
        refine z_iald X (4 * k + i) dX8_told_45 (by omega) (by assumption) (by omega) (by omega) ?_
        refine z_goto X dX8_told_46 81 (by decide) ?_
        refine z_ireturn (st := []) X rfl hQ dX8_told_81 ⟨rfl, _, rfl, ?_⟩
        refine ⟨rfl, ?_⟩
        rw [sp]
        first
          | (rw [if_pos (by omega)]; done)
          | (rw [if_neg (by omega), if_pos (by omega)]; exact v1)
          | (rw [if_neg (by omega), if_neg (by omega), if_pos (by omega)]; exact v2)
          | (rw [if_neg (by omega), if_neg (by omega), if_neg (by omega)]; exact v3)
    · refine z_ldc X dX8_told_25 q_X8_105 (-1000000001) (by decide) ?_
      refine z_ireturn (st := []) X rfl hQ dX8_told_27 ⟨rfl, _, rfl, ?_⟩
      refine ⟨rfl, ?_⟩
      unfold sp_told
      rw [Int.toNat_natCast, if_pos (by omega)]
theorem c_X8_fits (G : zG) {A : zA} {m : zM} {b n : Int} (hb : zi32 b) (hn : zi32 n) : zMet G k_X8_fits [vi b, vi n] A m (zpi A (fun r m' => m = m' ∧ ((r = 1 ∧ zin b 2 36 ∧ zin n 0 100) ∨ (r = 0 ∧ ¬ (zin b 2 36 ∧ zin n 0 100))))) := by
  unfold zi32 at hb hn
  refine zMet.of RX8 rfl (by decide +kernel) (Nat.le_of_ble_eq_true rfl) [some (vi b), some (vi n)] rfl (fun E hG X hQ hNm => ?_)
  subst hG
  refine z_iload_n X dX8_fits_0 rfl ?_
  refine z_i2l X dX8_fits_1 (by omega) ?_
  refine z_ldc2 X dX8_fits_2 q_X8_159 (2) (by decide) ?_
  refine z_ldc2 X dX8_fits_5 q_X8_211 (36) (by decide) ?_
  refine z_callSi X (As := [_, _, _]) dX8_fits_8 m_X8_in s_X8_in l_X8_86 (c_X8_in (zg E) (by omega) (by omega) (by omega)) rfl rfl (Nat.le_of_ble_eq_true rfl) ⟨Nat.le_of_ble_eq_true rfl, Nat.le_of_ble_eq_true rfl⟩ ⟨Nat.le_of_ble_eq_true rfl, Nat.le_of_ble_eq_true rfl⟩ ⟨rfl, rfl⟩ (fun r1 m1 hm1 => ?_)
  obtain ⟨rfl, hr1⟩ := hm1
  refine z_if_eq X dX8_fits_11 30 (by decide) (by omega) (fun h11 => ?_) (fun h11 => ?_)
  · refine z_iconst X dX8_fits_30 ?_
    refine z_zreturn (st := []) X rfl hQ dX8_fits_31 (by first | exact Or.inl rfl | exact Or.inr rfl | omega) ⟨rfl, _, rfl, ?_⟩
    first | exact ⟨rfl, Or.inr ⟨rfl, fun h => by omega⟩⟩ | exact ⟨rfl, Or.inl ⟨rfl, by omega, by omega⟩⟩
  · refine z_iload_n X dX8_fits_14 rfl ?_
    refine z_i2l X dX8_fits_15 (by omega) ?_
    refine z_lconst X dX8_fits_16 0 rfl ?_
    refine z_ldc2 X dX8_fits_17 q_X8_127 (100) (by decide) ?_
    refine z_callSi X (As := [_, _, _]) dX8_fits_20 m_X8_in s_X8_in l_X8_86 (c_X8_in (zg E) (by omega) (by omega) (by omega)) rfl rfl (Nat.le_of_ble_eq_true rfl) ⟨Nat.le_of_ble_eq_true rfl, Nat.le_of_ble_eq_true rfl⟩ ⟨Nat.le_of_ble_eq_true rfl, Nat.le_of_ble_eq_true rfl⟩ ⟨rfl, rfl⟩ (fun r2 m1 hm1 => ?_)
    obtain ⟨rfl, hr2⟩ := hm1
    refine z_if_eq X dX8_fits_23 30 (by decide) (by omega) (fun h23 => ?_) (fun h23 => ?_)
    · refine z_iconst X dX8_fits_30 ?_
      refine z_zreturn (st := []) X rfl hQ dX8_fits_31 (by first | exact Or.inl rfl | exact Or.inr rfl | omega) ⟨rfl, _, rfl, ?_⟩
      first | exact ⟨rfl, Or.inr ⟨rfl, fun h => by omega⟩⟩ | exact ⟨rfl, Or.inl ⟨rfl, by omega, by omega⟩⟩
    · refine z_iconst X dX8_fits_26 ?_
      refine z_goto X dX8_fits_27 31 (by decide) ?_
      refine z_zreturn (st := []) X rfl hQ dX8_fits_31 (by first | exact Or.inl rfl | exact Or.inr rfl | omega) ⟨rfl, _, rfl, ?_⟩
      first | exact ⟨rfl, Or.inr ⟨rfl, fun h => by omega⟩⟩ | exact ⟨rfl, Or.inl ⟨rfl, by omega, by omega⟩⟩
theorem c_X8_signOf (G : zG) {A : zA} {m : zM} {q : Nat} {σ : zSt} (hA : zmodA A q) (hm : zMR q m σ) : zMet G k_X8_signOf [vr q] A m (zpi A (fun r m' => m = m' ∧ r = sp_signOf σ)) := by
  obtain ⟨⟨hO0, f0, f1, f2, f3, f4, f5, f6, f7, f8, f9, f10, f11, f12, f16, f24, f25⟩, ⟨g1, g2, g3⟩, ⟨g4, g5, g6, g7, g8, g9⟩, ⟨g10, g11, g12, g13⟩, g14, g15, g16⟩ := id hA
  refine zMet.of RX8 rfl (by decide +kernel) (Nat.le_of_ble_eq_true rfl) [some (vr q)] rfl (fun E hG X hQ hNm => ?_)
  subst hG
  refine z_aload_n X dX8_signOf_0 rfl ?_
  refine z_getI X dX8_signOf_1 f_X8_235 rfl (by first | assumption | exact zbigA.o (by assumption)) ?_
  refine z_ireturn (st := []) X rfl hQ dX8_signOf_4 ⟨rfl, _, rfl, ?_⟩
  exact ⟨rfl, hm.2.2.2.1.1⟩
theorem c_X8_whole (G : zG) {A : zA} {m : zM} {q : Nat} {σ : zSt} (hA : zmodA A q) (hm : zMR q m σ) : zMet G k_X8_whole [vr q] A m (zpl A (fun r m' => m = m' ∧ r = sp_whole σ)) := by
  obtain ⟨⟨hO0, f0, f1, f2, f3, f4, f5, f6, f7, f8, f9, f10, f11, f12, f16, f24, f25⟩, ⟨g1, g2, g3⟩, ⟨g4, g5, g6, g7, g8, g9⟩, ⟨g10, g11, g12, g13⟩, g14, g15, g16⟩ := id hA
  refine zMet.of RX8 rfl (by decide +kernel) (Nat.le_of_ble_eq_true rfl) [some (vr q)] rfl (fun E hG X hQ hNm => ?_)
  subst hG
  refine z_aload_n X dX8_whole_0 rfl ?_
  refine z_getL X dX8_whole_1 f_X8_238 rfl (by first | assumption | exact zbigA.o (by assumption)) ?_
  refine z_lreturn (st := []) X rfl hQ dX8_whole_4 ⟨rfl, _, rfl, ?_⟩
  exact ⟨rfl, hm.2.2.2.1.2⟩
theorem zMR.rs {q : Nat} {m : zM} {σ : zSt} (hm : zMR q m σ) (ho : zStok σ) : (m q 17 = -6 ∧ (sR σ).1 = none ∧ (sR σ).2.2.2.1 = 0) ∨ ((0 ≤ m q 17 ∧ m q 17 < 4) ∧ (m q 23 = (sR σ).2.2.1 ∧ ((sR σ).2.2.1 = -6 ∧ (sR σ).2.2.2.1 = 0 ∨ (sR σ).2.2.1 = ((sR σ).2.2.2.1 : Int) ∧ (sR σ).2.2.2.1 ≤ 100)) ∧ ∀ j, j < (sR σ).2.2.2.1 → m (q + 15) j = (sR σ).2.2.2.2.2 j ∧ 0 ≤ (sR σ).2.2.2.2.2 j ∧ (sR σ).2.2.2.2.2 j < 36) := by
  obtain ⟨-, -, -, -, h5⟩ := hm
  obtain ⟨o1, o2, o3⟩ := ho.2.2.2
  rcases hx : (sR σ).1 with _ | x
  · rw [hx] at h5
    have g1 := o1.2.1
    have g2 := (o3 hx).2.1
    unfold zsur at g1
    exact Or.inl ⟨h5, rfl, by omega⟩
  · rw [hx] at h5
    obtain ⟨g1, g2, g3, g4, g5, g6⟩ := h5
    obtain ⟨p1, p2, p3, p4⟩ := o2 x hx
    exact Or.inr ⟨by omega, ⟨g5, o1.2.1⟩, fun j hj => ⟨g6 j hj, o1.2.2.2 j hj⟩⟩
theorem c_X8_isSure (G : zG) {A : zA} {m : zM} {q : Nat} {σ : zSt} {i : Int} (hA : zmodA A q) (hm : zMR q m σ) (ho : zStok σ) (hi : zi32 i) : zMet G k_X8_isSure [vr q, vi i] A m (zpi A (fun r m' => m = m' ∧ ((r = 1 ∧ zin i 1 ((sR σ).2.2.2.1 : Int)) ∨ (r = 0 ∧ ¬ zin i 1 ((sR σ).2.2.2.1 : Int))))) := by
  obtain ⟨⟨hO0, f0, f1, f2, f3, f4, f5, f6, f7, f8, f9, f10, f11, f12, f16, f24, f25⟩, ⟨g1, g2, g3⟩, ⟨g4, g5, g6, g7, g8, g9⟩, ⟨g10, g11, g12, g13⟩, g14, g15, g16⟩ := id hA
  unfold zi32 at hi
  have hrs := hm.rs ho
  have b17 : -6 ≤ m q 17 ∧ m q 17 < 4 := by omega
  refine zMet.of RX8 rfl (by decide +kernel) (Nat.le_of_ble_eq_true rfl) [some (vr q), some (vi i)] rfl (fun E hG X hQ hNm => ?_)
  subst hG
  refine z_aload_n X dX8_isSure_0 rfl ?_
  refine z_getI X dX8_isSure_1 f_X8_60 rfl (by first | assumption | exact zbigA.o (by assumption)) ?_
  refine z_bipush X dX8_isSure_4 (by decide) ?_
  refine z_icmp_eq X dX8_isSure_6 27 (by decide) (by omega) (by omega) (fun h6 => ?_) (fun h6 => ?_)
  · refine z_iconst X dX8_isSure_27 ?_
    refine z_zreturn (st := []) X rfl hQ dX8_isSure_28 (by first | exact Or.inl rfl | exact Or.inr rfl | omega) ⟨rfl, _, rfl, ?_⟩
    first | exact ⟨rfl, Or.inr ⟨rfl, fun h => by omega⟩⟩ | exact ⟨rfl, Or.inl ⟨rfl, by omega, by omega⟩⟩
  · refine z_iload_n X dX8_isSure_9 rfl ?_
    refine z_i2l X dX8_isSure_10 (by omega) ?_
    refine z_lconst X dX8_isSure_11 1 rfl ?_
    refine z_aload_n X dX8_isSure_12 rfl ?_
    refine z_getI X dX8_isSure_13 f_X8_241 rfl (by first | assumption | exact zbigA.o (by assumption)) ?_
    refine z_i2l X dX8_isSure_16 (by omega) ?_
    refine z_callSi X (As := [_, _, _]) dX8_isSure_17 m_X8_in s_X8_in l_X8_86 (c_X8_in (zg E) (by omega) (by omega) (by omega)) rfl rfl (Nat.le_of_ble_eq_true rfl) ⟨Nat.le_of_ble_eq_true rfl, Nat.le_of_ble_eq_true rfl⟩ ⟨Nat.le_of_ble_eq_true rfl, Nat.le_of_ble_eq_true rfl⟩ ⟨rfl, rfl⟩ (fun r1 m1 hm1 => ?_)
    obtain ⟨rfl, hr1⟩ := hm1
    refine z_if_eq X dX8_isSure_20 27 (by decide) (by omega) (fun h20 => ?_) (fun h20 => ?_)
    · refine z_iconst X dX8_isSure_27 ?_
      refine z_zreturn (st := []) X rfl hQ dX8_isSure_28 (by first | exact Or.inl rfl | exact Or.inr rfl | omega) ⟨rfl, _, rfl, ?_⟩
      first | exact ⟨rfl, Or.inr ⟨rfl, fun h => by omega⟩⟩ | exact ⟨rfl, Or.inl ⟨rfl, by omega, by omega⟩⟩
    · refine z_iconst X dX8_isSure_23 ?_
      refine z_goto X dX8_isSure_24 28 (by decide) ?_
      refine z_zreturn (st := []) X rfl hQ dX8_isSure_28 (by first | exact Or.inl rfl | exact Or.inr rfl | omega) ⟨rfl, _, rfl, ?_⟩
      first | exact ⟨rfl, Or.inr ⟨rfl, fun h => by omega⟩⟩ | exact ⟨rfl, Or.inl ⟨rfl, by omega, by omega⟩⟩
theorem c_X8_figure (G : zG) {A : zA} {m : zM} {q : Nat} {σ : zSt} {i : Int} (hA : zmodA A q) (hm : zMR q m σ) (ho : zStok σ) (hi : zi32 i) : zMet G k_X8_figure [vr q, vi i] A m (zpi A (fun r m' => m = m' ∧ r = sp_figure σ i)) := by
  obtain ⟨⟨hO0, f0, f1, f2, f3, f4, f5, f6, f7, f8, f9, f10, f11, f12, f16, f24, f25⟩, ⟨g1, g2, g3⟩, ⟨g4, g5, g6, g7, g8, g9⟩, ⟨g10, g11, g12, g13⟩, g14, g15, g16⟩ := id hA
  have hrs := hm.rs ho
  refine zMet.of RX8 rfl (by decide +kernel) (Nat.le_of_ble_eq_true rfl) [some (vr q), some (vi i)] rfl (fun E hG X hQ hNm => ?_)
  subst hG
  refine z_aload_n X dX8_figure_0 rfl ?_
  refine z_iload_n X dX8_figure_1 rfl ?_
  refine z_callVi X (As := [_]) dX8_figure_2 m_X8_isSure i_X8_isSure l_X8_244 (c_X8_isSure (zg E) hA hm ho hi) (by first | assumption | exact zbigA.o (by assumption)) rfl rfl rfl (Nat.le_of_ble_eq_true rfl) ⟨Nat.le_of_ble_eq_true rfl, Nat.le_of_ble_eq_true rfl⟩ ⟨Nat.le_of_ble_eq_true rfl, Nat.le_of_ble_eq_true rfl⟩ ⟨rfl, rfl⟩ (fun r1 m1 hm1 => ?_)
  obtain ⟨rfl, hr1⟩ := hm1
  refine z_if_eq X dX8_figure_5 19 (by decide) (by omega) (fun h5 => ?_) (fun h5 => ?_)
  · refine z_bipush X dX8_figure_19 (by decide) ?_
    refine z_ireturn (st := []) X rfl hQ dX8_figure_21 ⟨rfl, _, rfl, ?_⟩
    refine ⟨rfl, ?_⟩
    unfold sp_figure zbp
    first
      | (rw [if_neg (by omega)]; done)
      | (rw [if_pos (by omega)]
         rcases hrs with h | ⟨_, _, h⟩
         · omega
         · exact (h _ (by omega)).1)
  · refine z_aload_n X dX8_figure_8 rfl ?_
    refine z_getR X dX8_figure_9 f_X8_54 rfl (by first | assumption | exact zbigA.o (by assumption)) (by assumption) ?_
    refine z_iload_n X dX8_figure_12 rfl ?_
    refine z_iconst X dX8_figure_13 ?_
    refine z_isub X dX8_figure_14 ?_
    refine z_iald X ((i - 1).toNat) dX8_figure_15 (by omega) (by assumption) (by omega) (by omega) ?_
    refine z_goto X dX8_figure_16 21 (by decide) ?_
    refine z_ireturn (st := []) X rfl hQ dX8_figure_21 ⟨rfl, _, rfl, ?_⟩
    refine ⟨rfl, ?_⟩
    unfold sp_figure zbp
    first
      | (rw [if_neg (by omega)]; done)
      | (rw [if_pos (by omega)]
         rcases hrs with h | ⟨_, _, h⟩
         · omega
         · exact (h _ (by omega)).1)
theorem zl8_count {E : zCx} (X : zOK E cX8_count RX8 4 (some .int) k_X8_count.2.2.2.2) {A : zA} {m : zM} {q : Nat} {σ : zSt} {x : Int} (hA : zmodA A q) (hm : zMR q m σ) (ho : zStok σ) (hx : 0 ≤ x ∧ x < 36) {P : Int → zM → Prop} (hQ : zRet E (zpi A P) 0 0) (hP : P (zcnt (sR σ).2.2.2.2.2 x (sR σ).2.2.2.1 : Int) m) : ∀ (r i : Nat), i + r = (sR σ).2.2.2.1 → zW E (0, 0) A m 19 [some (vr q), some (vi x), some (vi (zcnt (sR σ).2.2.2.2.2 x i : Int)), some (vi ((i : Int) + 1))] [] := by
  obtain ⟨⟨hO0, f0, f1, f2, f3, f4, f5, f6, f7, f8, f9, f10, f11, f12, f16, f24, f25⟩, ⟨g1, g2, g3⟩, ⟨g4, g5, g6, g7, g8, g9⟩, ⟨g10, g11, g12, g13⟩, g14, g15, g16⟩ := id hA
  have hrs := hm.rs ho
  intro r
  induction r with
  | zero =>
    intro i hi
    obtain rfl : i = (sR σ).2.2.2.1 := by omega
    refine z_aload_n X dX8_count_19 rfl ?_
    refine z_iload_n X dX8_count_20 rfl ?_
    refine z_callVi X (As := [_]) dX8_count_21 m_X8_isSure i_X8_isSure l_X8_244 (c_X8_isSure (zg E) hA hm ho (by unfold zi32; omega)) (by first | assumption | exact zbigA.o (by assumption)) rfl rfl rfl (Nat.le_of_ble_eq_true rfl) ⟨Nat.le_of_ble_eq_true rfl, Nat.le_of_ble_eq_true rfl⟩ ⟨Nat.le_of_ble_eq_true rfl, Nat.le_of_ble_eq_true rfl⟩ ⟨rfl, rfl⟩ (fun r1 m1 hm1 => ?_)
    obtain ⟨rfl, hr1⟩ := hm1
    refine z_if_eq X dX8_count_24 53 (by decide) (by omega) (fun h24 => ?_) (fun h24 => ?_)
    · refine z_iload_n X dX8_count_53 rfl ?_
      refine z_ireturn (st := []) X rfl hQ dX8_count_54 ⟨rfl, _, rfl, ?_⟩
      exact hP
    · exact absurd h24 (by omega)
  | succ r ih =>
    intro i hi
    have hle := zcnt_le (sR σ).2.2.2.2.2 x i
    have hd : m (q + 15) i = (sR σ).2.2.2.2.2 i ∧ 0 ≤ (sR σ).2.2.2.2.2 i ∧ (sR σ).2.2.2.2.2 i < 36 := by
      rcases hrs with h | ⟨_, _, h⟩
      · omega
      · exact h i (by omega)
    have hs := zcnt_s (sR σ).2.2.2.2.2 x i
    refine z_aload_n X dX8_count_19 rfl ?_
    refine z_iload_n X dX8_count_20 rfl ?_
    refine z_callVi X (As := [_]) dX8_count_21 m_X8_isSure i_X8_isSure l_X8_244 (c_X8_isSure (zg E) hA hm ho (by unfold zi32; omega)) (by first | assumption | exact zbigA.o (by assumption)) rfl rfl rfl (Nat.le_of_ble_eq_true rfl) ⟨Nat.le_of_ble_eq_true rfl, Nat.le_of_ble_eq_true rfl⟩ ⟨Nat.le_of_ble_eq_true rfl, Nat.le_of_ble_eq_true rfl⟩ ⟨rfl, rfl⟩ (fun r1 m1 hm1 => ?_)
    obtain ⟨rfl, hr1⟩ := hm1
    refine z_if_eq X dX8_count_24 53 (by decide) (by omega) (fun h24 => ?_) (fun h24 => ?_)
    · exact absurd h24 (by omega)
    · refine z_iload_n X dX8_count_27 rfl ?_
      refine z_aload_n X dX8_count_28 rfl ?_
      refine z_getR X dX8_count_29 f_X8_54 rfl (by first | assumption | exact zbigA.o (by assumption)) (by assumption) ?_
      refine z_iload_n X dX8_count_32 rfl ?_
      refine z_iconst X dX8_count_33 ?_
      refine z_isub X dX8_count_34 ?_
      refine z_iald X (i) dX8_count_35 (by omega) (by assumption) (by omega) (by omega) ?_
      refine z_iload_n X dX8_count_36 rfl ?_
      refine z_icmp_ne X dX8_count_37 44 (by decide) (by omega) (by omega) (fun h37 => ?_) (fun h37 => ?_)
      · refine z_iconst X dX8_count_44 ?_
        refine z_iadd X dX8_count_45 ?_
        refine z_istore_n X dX8_count_46 (fun y => [_, _, some (vi y), _]) (by decide) (fun _ => rfl) (fun k hk => ?_)
        refine z_iinc X dX8_count_47 rfl (fun y => [_, _, _, some (vi y)]) (fun _ => rfl) (fun z hz => ?_)
        obtain rfl : z = ((i + 1 : Nat) : Int) + 1 := by omega
        refine z_goto X dX8_count_50 19 (by decide) ?_
        have h := ih (i + 1) (by omega)
        obtain rfl : k = (zcnt (sR σ).2.2.2.2.2 x (i + 1) : Int) := by
          first
            | (rw [if_pos (by omega)] at hs; omega)
            | (rw [if_neg (by omega)] at hs; omega)
        exact h
      · refine z_iconst X dX8_count_40 ?_
        refine z_goto X dX8_count_41 45 (by decide) ?_
        refine z_iadd X dX8_count_45 ?_
        refine z_istore_n X dX8_count_46 (fun y => [_, _, some (vi y), _]) (by decide) (fun _ => rfl) (fun k hk => ?_)
        refine z_iinc X dX8_count_47 rfl (fun y => [_, _, _, some (vi y)]) (fun _ => rfl) (fun z hz => ?_)
        obtain rfl : z = ((i + 1 : Nat) : Int) + 1 := by omega
        refine z_goto X dX8_count_50 19 (by decide) ?_
        have h := ih (i + 1) (by omega)
        obtain rfl : k = (zcnt (sR σ).2.2.2.2.2 x (i + 1) : Int) := by
          first
            | (rw [if_pos (by omega)] at hs; omega)
            | (rw [if_neg (by omega)] at hs; omega)
        exact h
theorem c_X8_count (G : zG) {A : zA} {m : zM} {q : Nat} {σ : zSt} {x : Int} (hA : zmodA A q) (hm : zMR q m σ) (ho : zStok σ) (hx : zi32 x) : zMet G k_X8_count [vr q, vi x] A m (zpi A (fun r m' => m = m' ∧ r = sp_count σ x)) := by
  obtain ⟨⟨hO0, f0, f1, f2, f3, f4, f5, f6, f7, f8, f9, f10, f11, f12, f16, f24, f25⟩, ⟨g1, g2, g3⟩, ⟨g4, g5, g6, g7, g8, g9⟩, ⟨g10, g11, g12, g13⟩, g14, g15, g16⟩ := id hA
  unfold zi32 at hx
  refine zMet.of RX8 rfl (by decide +kernel) (Nat.le_of_ble_eq_true rfl) [some (vr q), some (vi x), none, none] rfl (fun E hG X hQ hNm => ?_)
  subst hG
  refine z_iload_n X dX8_count_0 rfl ?_
  refine z_i2l X dX8_count_1 (by omega) ?_
  refine z_lconst X dX8_count_2 0 rfl ?_
  refine z_ldc2 X dX8_count_3 q_X8_247 (35) (by decide) ?_
  refine z_callSi X (As := [_, _, _]) dX8_count_6 m_X8_in s_X8_in l_X8_86 (c_X8_in (zg E) (by omega) (by omega) (by omega)) rfl rfl (Nat.le_of_ble_eq_true rfl) ⟨Nat.le_of_ble_eq_true rfl, Nat.le_of_ble_eq_true rfl⟩ ⟨Nat.le_of_ble_eq_true rfl, Nat.le_of_ble_eq_true rfl⟩ ⟨rfl, rfl⟩ (fun r1 m1 hm1 => ?_)
  obtain ⟨rfl, hr1⟩ := hm1
  refine z_if_ne X dX8_count_9 15 (by decide) (by omega) (fun h9 => ?_) (fun h9 => ?_)
  · refine z_iconst X dX8_count_15 ?_
    refine z_istore_n X dX8_count_16 (fun y => [_, _, some (vi y), _]) (by decide) (fun _ => rfl) (fun x2_16 hx2_16 => ?_)
    subst hx2_16
    refine z_iconst X dX8_count_17 ?_
    refine z_istore_n X dX8_count_18 (fun y => [_, _, _, some (vi y)]) (by decide) (fun _ => rfl) (fun x3_18 hx3_18 => ?_)
    subst hx3_18
    have sp : sp_count σ x = (zcnt (sR σ).2.2.2.2.2 x (sR σ).2.2.2.1 : Int) := by
      unfold sp_count
      rw [if_neg (by omega)]
    exact zl8_count X hA hm ho (by omega) hQ ⟨rfl, sp.symm⟩ (sR σ).2.2.2.1 0 (by omega)
  · refine z_bipush X dX8_count_12 (by decide) ?_
    refine z_ireturn (st := []) X rfl hQ dX8_count_14 ⟨rfl, _, rfl, ?_⟩
    refine ⟨rfl, ?_⟩
    unfold sp_count
    rw [if_pos (by omega)]
theorem zl8_is {E : zCx} {rm : Room} {cs : Nat × Nat} (X : zOK E cX8_where RX8 6 (some .int) rm) {A : zA} {m : zM} {q p k : Nat} {σ : zSt} {row : Int} (hA : zmodA A q) (hm : zMR q m σ) (ho : zStok σ) (hrow : -2147483648 ≤ row ∧ row < 2147483648) (hk : 1 ≤ k ∧ k ≤ 5) (hp : p + k ≤ (sR σ).2.2.2.1)
    (K : ∀ (b : Int) (i : Nat), ((b = 1 ∧ zcomes (sR σ).2.2.2.2.2 row k p) ∨ (b = 0 ∧ ¬ zcomes (sR σ).2.2.2.2.2 row k p)) → zW E cs A m 86 [some (vr q), some (vi row), some (vi (k : Int)), some (vi ((p : Int) + 1)), some (vi b), some (vi (i : Int))] []) : ∀ (r i : Nat) (b : Int), i + r = k → ((b = 1 ∧ ∀ j, j < i → (sR σ).2.2.2.2.2 (p + j) = zrow row k j) ∨ (b = 0 ∧ ¬ zcomes (sR σ).2.2.2.2.2 row k p)) → zW E cs A m 35 [some (vr q), some (vi row), some (vi (k : Int)), some (vi ((p : Int) + 1)), some (vi b), some (vi (i : Int))] [] := by
  obtain ⟨⟨hO0, f0, f1, f2, f3, f4, f5, f6, f7, f8, f9, f10, f11, f12, f16, f24, f25⟩, ⟨g1, g2, g3⟩, ⟨g4, g5, g6, g7, g8, g9⟩, ⟨g10, g11, g12, g13⟩, g14, g15, g16⟩ := id hA
  have hrs := hm.rs ho
  have h100 : (sR σ).2.2.2.1 ≤ 100 := by omega
  intro r
  induction r with
  | zero =>
    intro i b hi hb
    obtain rfl : i = k := by omega
    refine z_iload X dX8_where_35 rfl ?_
    refine z_iload_n X dX8_where_37 rfl ?_
    refine z_icmp_ge X dX8_where_38 86 (by decide) (by omega) (by omega) (fun h38 => ?_) (fun h38 => ?_)
    · exact K b i hb
    · exact absurd h38 (by omega)
  | succ r ih =>
    intro i b hi hb
    have hb01 : b = 0 ∨ b = 1 := by rcases hb with h | h <;> omega
    have hd : m (q + 15) (p + i) = (sR σ).2.2.2.2.2 (p + i) ∧ 0 ≤ (sR σ).2.2.2.2.2 (p + i) ∧ (sR σ).2.2.2.2.2 (p + i) < 36 := by
      rcases hrs with h | ⟨_, _, h⟩
      · omega
      · exact h (p + i) (by omega)
    refine z_iload X dX8_where_35 rfl ?_
    refine z_iload_n X dX8_where_37 rfl ?_
    refine z_icmp_ge X dX8_where_38 86 (by decide) (by omega) (by omega) (fun h38 => ?_) (fun h38 => ?_)
    · exact absurd h38 (by omega)
    · refine z_iload X dX8_where_41 rfl ?_
      refine z_if_eq X dX8_where_43 86 (by decide) (by omega) (fun h43 => ?_) (fun h43 => ?_)
      · exact K b i (by rcases hb with h | h; omega; exact Or.inr h)
      · refine z_aload_n X dX8_where_46 rfl ?_
        refine z_getR X dX8_where_47 f_X8_54 rfl (by first | assumption | exact zbigA.o (by assumption)) (by assumption) ?_
        refine z_iload_n X dX8_where_50 rfl ?_
        refine z_iconst X dX8_where_51 ?_
        refine z_isub X dX8_where_52 ?_
        refine z_iload X dX8_where_53 rfl ?_
        refine z_iadd X dX8_where_55 ?_
        refine z_iald X (p + i) dX8_where_56 (by omega) (by assumption) (by omega) (by omega) ?_
        refine z_iload_n X dX8_where_57 rfl ?_
        refine z_iconst X dX8_where_58 ?_
        refine z_iload_n X dX8_where_59 rfl ?_
        refine z_iconst X dX8_where_60 ?_
        refine z_isub X dX8_where_61 ?_
        refine z_iload X dX8_where_62 rfl ?_
        refine z_isub X dX8_where_64 ?_
        refine z_imul X dX8_where_65 ?_
        refine z_ishr X dX8_where_66 (5 * (k - 1 - i)) (((2 ^ (5 * (k - 1 - i)) : Nat) : Int)) (by omega) (by omega) rfl (by omega) ?_
        refine z_bipush X dX8_where_67 (by decide) ?_
        refine z_iand X dX8_where_69 5 (by omega) (by decide) 32 (by decide) ?_
        have hz' : row / ((2 ^ (5 * (k - 1 - i)) : Nat) : Int) % 32 = zrow row k i := rfl
        have hz0 : 0 ≤ row / ((2 ^ (5 * (k - 1 - i)) : Nat) : Int) % 32 ∧ row / ((2 ^ (5 * (k - 1 - i)) : Nat) : Int) % 32 < 32 := by omega
        refine z_icmp_ne X dX8_where_70 77 (by decide) (by omega) (by omega) (fun h70 => ?_) (fun h70 => ?_)
        · refine z_iconst X dX8_where_77 ?_
          refine z_istore X dX8_where_78 (fun y => [_, _, _, _, some (vi y), _]) (by decide) (fun _ => rfl) (fun b2 hb2 => ?_)
          refine z_iinc X dX8_where_80 rfl (fun y => [_, _, _, _, _, some (vi y)]) (fun _ => rfl) (fun z hz => ?_)
          obtain rfl : z = ((i + 1 : Nat) : Int) := by omega
          refine z_goto X dX8_where_83 35 (by decide) ?_
          refine ih (i + 1) b2 (by omega) ?_
          have hb1 : b = 1 ∧ ∀ j, j < i → (sR σ).2.2.2.2.2 (p + j) = zrow row k j := by
            rcases hb with h | h
            · exact h
            · omega
          by_cases he : (sR σ).2.2.2.2.2 (p + i) = zrow row k i
          · refine Or.inl ⟨by omega, fun j hj => ?_⟩
            by_cases hji : j = i
            · rw [hji]; exact he
            · exact hb1.2 j (by omega)
          · exact Or.inr ⟨by omega, fun h => he (h i (by omega))⟩
        · refine z_iconst X dX8_where_73 ?_
          refine z_goto X dX8_where_74 78 (by decide) ?_
          refine z_istore X dX8_where_78 (fun y => [_, _, _, _, some (vi y), _]) (by decide) (fun _ => rfl) (fun b2 hb2 => ?_)
          refine z_iinc X dX8_where_80 rfl (fun y => [_, _, _, _, _, some (vi y)]) (fun _ => rfl) (fun z hz => ?_)
          obtain rfl : z = ((i + 1 : Nat) : Int) := by omega
          refine z_goto X dX8_where_83 35 (by decide) ?_
          refine ih (i + 1) b2 (by omega) ?_
          have hb1 : b = 1 ∧ ∀ j, j < i → (sR σ).2.2.2.2.2 (p + j) = zrow row k j := by
            rcases hb with h | h
            · exact h
            · omega
          by_cases he : (sR σ).2.2.2.2.2 (p + i) = zrow row k i
          · refine Or.inl ⟨by omega, fun j hj => ?_⟩
            by_cases hji : j = i
            · rw [hji]; exact he
            · exact hb1.2 j (by omega)
          · exact Or.inr ⟨by omega, fun h => he (h i (by omega))⟩
theorem zl8_where {E : zCx} (X : zOK E cX8_where RX8 6 (some .int) k_X8_where.2.2.2.2) {A : zA} {m : zM} {q k : Nat} {σ : zSt} {row : Int} (hA : zmodA A q) (hm : zMR q m σ) (ho : zStok σ) (hrow : -2147483648 ≤ row ∧ row < 2147483648) (hk : 1 ≤ k ∧ k ≤ 5) {R : Int} {P : Int → zM → Prop} (hQ : zRet E (zpi A P) 0 0) (hP : P R m) : ∀ (r p : Nat) (l4 l5 : Option Value), (r = 0 ∧ (sR σ).2.2.2.1 < p + k ∧ p ≤ 100) ∨ (p + r + k = (sR σ).2.2.2.1 + 1) → zplc (sR σ).2.2.2.2.2 row k p r = R → zW E (0, 0) A m 17 [some (vr q), some (vi row), some (vi (k : Int)), some (vi ((p : Int) + 1)), l4, l5] [] := by
  obtain ⟨⟨hO0, f0, f1, f2, f3, f4, f5, f6, f7, f8, f9, f10, f11, f12, f16, f24, f25⟩, ⟨g1, g2, g3⟩, ⟨g4, g5, g6, g7, g8, g9⟩, ⟨g10, g11, g12, g13⟩, g14, g15, g16⟩ := id hA
  have hrs := hm.rs ho
  have h100 : (sR σ).2.2.2.1 ≤ 100 := by omega
  intro r
  induction r with
  | zero =>
    intro p l4 l5 hp hR
    refine z_aload_n X dX8_where_17 rfl ?_
    refine z_iload_n X dX8_where_18 rfl ?_
    refine z_iload_n X dX8_where_19 rfl ?_
    refine z_iadd X dX8_where_20 ?_
    refine z_iconst X dX8_where_21 ?_
    refine z_isub X dX8_where_22 ?_
    refine z_callVi X (As := [_]) dX8_where_23 m_X8_isSure i_X8_isSure l_X8_244 (c_X8_isSure (zg E) hA hm ho (by unfold zi32; omega)) (by first | assumption | exact zbigA.o (by assumption)) rfl rfl rfl (Nat.le_of_ble_eq_true rfl) ⟨Nat.le_of_ble_eq_true rfl, Nat.le_of_ble_eq_true rfl⟩ ⟨Nat.le_of_ble_eq_true rfl, Nat.le_of_ble_eq_true rfl⟩ ⟨rfl, rfl⟩ (fun r1 m1 hm1 => ?_)
    obtain ⟨rfl, hr1⟩ := hm1
    refine z_if_eq X dX8_where_26 99 (by decide) (by omega) (fun h26 => ?_) (fun h26 => ?_)
    · refine z_bipush X dX8_where_99 (by decide) ?_
      refine z_ireturn (st := []) X rfl hQ dX8_where_101 ⟨rfl, _, rfl, ?_⟩
      have : R = -6 := hR.symm
      rw [this] at hP
      exact hP
    · exact absurd h26 (by omega)
  | succ r ih =>
    intro p l4 l5 hp hR
    unfold zplc at hR
    refine z_aload_n X dX8_where_17 rfl ?_
    refine z_iload_n X dX8_where_18 rfl ?_
    refine z_iload_n X dX8_where_19 rfl ?_
    refine z_iadd X dX8_where_20 ?_
    refine z_iconst X dX8_where_21 ?_
    refine z_isub X dX8_where_22 ?_
    refine z_callVi X (As := [_]) dX8_where_23 m_X8_isSure i_X8_isSure l_X8_244 (c_X8_isSure (zg E) hA hm ho (by unfold zi32; omega)) (by first | assumption | exact zbigA.o (by assumption)) rfl rfl rfl (Nat.le_of_ble_eq_true rfl) ⟨Nat.le_of_ble_eq_true rfl, Nat.le_of_ble_eq_true rfl⟩ ⟨Nat.le_of_ble_eq_true rfl, Nat.le_of_ble_eq_true rfl⟩ ⟨rfl, rfl⟩ (fun r1 m1 hm1 => ?_)
    obtain ⟨rfl, hr1⟩ := hm1
    refine z_if_eq X dX8_where_26 99 (by decide) (by omega) (fun h26 => ?_) (fun h26 => ?_)
    · exact absurd h26 (by omega)
    · refine z_iconst X dX8_where_29 ?_
      refine z_istore X dX8_where_30 (fun y => [_, _, _, _, some (vi y), _]) (by decide) (fun _ => rfl) (fun x4_30 hx4_30 => ?_)
      subst hx4_30
      refine z_iconst X dX8_where_32 ?_
      refine z_istore X dX8_where_33 (fun y => [_, _, _, _, _, some (vi y)]) (by decide) (fun _ => rfl) (fun x5_33 hx5_33 => ?_)
      subst hx5_33
      refine zl8_is X hA hm ho hrow hk (p := p) (by omega) (fun b i hb => ?_) k 0 1 (by omega) (Or.inl ⟨rfl, fun j hj => absurd hj (by omega)⟩)
      have hb01 : b = 0 ∨ b = 1 := by rcases hb with h | h <;> omega
      refine z_iload X dX8_where_86 rfl ?_
      refine z_if_eq X dX8_where_88 93 (by decide) (by omega) (fun h88 => ?_) (fun h88 => ?_)
      · refine z_iinc X dX8_where_93 rfl (fun y => [_, _, _, some (vi y), _, _]) (fun _ => rfl) (fun z hz => ?_)
        obtain rfl : z = ((p + 1 : Nat) : Int) + 1 := by omega
        refine z_goto X dX8_where_96 17 (by decide) ?_
        refine ih (p + 1) _ _ (by omega) ?_
        rcases hb with ⟨h, _⟩ | ⟨_, h⟩
        · omega
        · rw [if_neg h] at hR
          exact hR
      · refine z_iload_n X dX8_where_91 rfl ?_
        refine z_ireturn (st := []) X rfl hQ dX8_where_92 ⟨rfl, _, rfl, ?_⟩
        rcases hb with ⟨_, h⟩ | ⟨h, _⟩
        · rw [if_pos h] at hR
          rw [hR]
          exact hP
        · exact absurd h h88
theorem c_X8_where (G : zG) {A : zA} {m : zM} {q : Nat} {σ : zSt} {row k : Int} (hA : zmodA A q) (hm : zMR q m σ) (ho : zStok σ) (hrow : zi32 row) (hk : zi32 k) : zMet G k_X8_where [vr q, vi row, vi k] A m (zpi A (fun r m' => m = m' ∧ r = sp_where σ row k)) := by
  obtain ⟨⟨hO0, f0, f1, f2, f3, f4, f5, f6, f7, f8, f9, f10, f11, f12, f16, f24, f25⟩, ⟨g1, g2, g3⟩, ⟨g4, g5, g6, g7, g8, g9⟩, ⟨g10, g11, g12, g13⟩, g14, g15, g16⟩ := id hA
  unfold zi32 at hrow hk
  refine zMet.of RX8 rfl (by decide +kernel) (Nat.le_of_ble_eq_true rfl) [some (vr q), some (vi row), some (vi k), none, none, none] rfl (fun E hG X hQ hNm => ?_)
  subst hG
  refine z_iload_n X dX8_where_0 rfl ?_
  refine z_i2l X dX8_where_1 (by omega) ?_
  refine z_lconst X dX8_where_2 1 rfl ?_
  refine z_ldc2 X dX8_where_3 q_X8_84 (5) (by decide) ?_
  refine z_callSi X (As := [_, _, _]) dX8_where_6 m_X8_in s_X8_in l_X8_86 (c_X8_in (zg E) (by omega) (by omega) (by omega)) rfl rfl (Nat.le_of_ble_eq_true rfl) ⟨Nat.le_of_ble_eq_true rfl, Nat.le_of_ble_eq_true rfl⟩ ⟨Nat.le_of_ble_eq_true rfl, Nat.le_of_ble_eq_true rfl⟩ ⟨rfl, rfl⟩ (fun r1 m1 hm1 => ?_)
  obtain ⟨rfl, hr1⟩ := hm1
  refine z_if_ne X dX8_where_9 15 (by decide) (by omega) (fun h9 => ?_) (fun h9 => ?_)
  · refine z_iconst X dX8_where_15 ?_
    refine z_istore_n X dX8_where_16 (fun y => [_, _, _, some (vi y), _, _]) (by decide) (fun _ => rfl) (fun x3_16 hx3_16 => ?_)
    subst hx3_16
    obtain ⟨n, rfl⟩ : ∃ n : Nat, k = (n : Int) := ⟨k.toNat, by omega⟩
    have sp : sp_where σ row (n : Int) = zplc (sR σ).2.2.2.2.2 row n 0 ((sR σ).2.2.2.1 + 1 - n) := by
      unfold sp_where
      rw [if_neg (by omega), Int.toNat_natCast]
    exact zl8_where X hA hm ho hrow (by omega) hQ ⟨rfl, sp.symm⟩ ((sR σ).2.2.2.1 + 1 - n) 0 none none (by omega) rfl
  · refine z_bipush X dX8_where_12 (by decide) ?_
    refine z_ireturn (st := []) X rfl hQ dX8_where_14 ⟨rfl, _, rfl, ?_⟩
    refine ⟨rfl, ?_⟩
    unfold sp_where
    rw [if_pos (by omega)]
theorem c_X8_about (G : zG) {A : zA} {m : zM} {q : Nat} {σ : zSt} {w : Int} (hA : zmodA A q) (hm : zMR q m σ) (ho : zStok σ) (hw : zi32 w) : zMet G k_X8_about [vr q, vi w] A m (zpi A (fun r m' => m = m' ∧ r = sp_about σ w)) := by
  obtain ⟨⟨hO0, f0, f1, f2, f3, f4, f5, f6, f7, f8, f9, f10, f11, f12, f16, f24, f25⟩, ⟨g1, g2, g3⟩, ⟨g4, g5, g6, g7, g8, g9⟩, ⟨g10, g11, g12, g13⟩, g14, g15, g16⟩ := id hA
  unfold zi32 at hw
  have hrs := hm.rs ho
  have b17 : -6 ≤ m q 17 ∧ m q 17 < 4 := by omega
  have h5 := hm.2.2.2.2
  refine zMet.of RX8 rfl (by decide +kernel) (Nat.le_of_ble_eq_true rfl) [some (vr q), some (vi w)] rfl (fun E hG X hQ hNm => ?_)
  subst hG
  refine z_iload_n X dX8_about_0 rfl ?_
  refine z_i2l X dX8_about_1 (by omega) ?_
  refine z_lconst X dX8_about_2 0 rfl ?_
  refine z_ldc2 X dX8_about_3 q_X8_249 (4) (by decide) ?_
  refine z_callSi X (As := [_, _, _]) dX8_about_6 m_X8_in s_X8_in l_X8_86 (c_X8_in (zg E) (by omega) (by omega) (by omega)) rfl rfl (Nat.le_of_ble_eq_true rfl) ⟨Nat.le_of_ble_eq_true rfl, Nat.le_of_ble_eq_true rfl⟩ ⟨Nat.le_of_ble_eq_true rfl, Nat.le_of_ble_eq_true rfl⟩ ⟨rfl, rfl⟩ (fun r1 m1 hm1 => ?_)
  obtain ⟨rfl, hr1⟩ := hm1
  refine z_if_ne X dX8_about_9 15 (by decide) (by omega) (fun h9 => ?_) (fun h9 => ?_)
  · refine z_aload_n X dX8_about_15 rfl ?_
    refine z_getI X dX8_about_16 f_X8_60 rfl (by first | assumption | exact zbigA.o (by assumption)) ?_
    refine z_bipush X dX8_about_19 (by decide) ?_
    refine z_icmp_ne X dX8_about_21 27 (by decide) (by omega) (by omega) (fun h21 => ?_) (fun h21 => ?_)
    · refine z_iload_n X dX8_about_27 rfl ?_
      refine z_if_ne X dX8_about_28 38 (by decide) (by omega) (fun h28 => ?_) (fun h28 => ?_)
      · refine z_iload_n X dX8_about_38 rfl ?_
        refine z_iconst X dX8_about_39 ?_
        refine z_icmp_ne X dX8_about_40 50 (by decide) (by omega) (by omega) (fun h40 => ?_) (fun h40 => ?_)
        · refine z_iload_n X dX8_about_50 rfl ?_
          refine z_iconst X dX8_about_51 ?_
          refine z_icmp_ne X dX8_about_52 62 (by decide) (by omega) (by omega) (fun h52 => ?_) (fun h52 => ?_)
          · refine z_iload_n X dX8_about_62 rfl ?_
            refine z_iconst X dX8_about_63 ?_
            refine z_icmp_ne X dX8_about_64 74 (by decide) (by omega) (by omega) (fun h64 => ?_) (fun h64 => ?_)
            · refine z_aload_n X dX8_about_74 rfl ?_
              refine z_getI X dX8_about_75 f_X8_241 rfl (by first | assumption | exact zbigA.o (by assumption)) ?_
              refine z_ireturn (st := []) X rfl hQ dX8_about_78 ⟨rfl, _, rfl, ?_⟩
              refine ⟨rfl, ?_⟩
              rcases hx : (sR σ).1 with _ | ⟨x1, x2, x3, x4⟩
              · rw [hx] at h5
                have h5' : m q 17 = -6 := h5
                exfalso; omega
              · rw [hx] at h5
                obtain ⟨y1, y2, y3, y4, y5, _⟩ := h5
                unfold sp_about
                rw [if_neg (by omega), hx]
                show _ = if w = 0 then x1 else if w = 1 then x2 else if w = 2 then x3 else if w = 3 then x4 else (sR σ).2.2.1
                first
                  | (rw [if_pos (by omega)]; exact y1)
                  | (rw [if_neg (by omega), if_pos (by omega)]; exact y2)
                  | (rw [if_neg (by omega), if_neg (by omega), if_pos (by omega)]; exact y3)
                  | (rw [if_neg (by omega), if_neg (by omega), if_neg (by omega), if_pos (by omega)]; exact y4)
                  | (rw [if_neg (by omega), if_neg (by omega), if_neg (by omega), if_neg (by omega)]; exact y5)
            · refine z_aload_n X dX8_about_67 rfl ?_
              refine z_getI X dX8_about_68 f_X8_232 rfl (by first | assumption | exact zbigA.o (by assumption)) ?_
              refine z_goto X dX8_about_71 78 (by decide) ?_
              refine z_ireturn (st := []) X rfl hQ dX8_about_78 ⟨rfl, _, rfl, ?_⟩
              refine ⟨rfl, ?_⟩
              rcases hx : (sR σ).1 with _ | ⟨x1, x2, x3, x4⟩
              · rw [hx] at h5
                have h5' : m q 17 = -6 := h5
                exfalso; omega
              · rw [hx] at h5
                obtain ⟨y1, y2, y3, y4, y5, _⟩ := h5
                unfold sp_about
                rw [if_neg (by omega), hx]
                show _ = if w = 0 then x1 else if w = 1 then x2 else if w = 2 then x3 else if w = 3 then x4 else (sR σ).2.2.1
                first
                  | (rw [if_pos (by omega)]; exact y1)
                  | (rw [if_neg (by omega), if_pos (by omega)]; exact y2)
                  | (rw [if_neg (by omega), if_neg (by omega), if_pos (by omega)]; exact y3)
                  | (rw [if_neg (by omega), if_neg (by omega), if_neg (by omega), if_pos (by omega)]; exact y4)
                  | (rw [if_neg (by omega), if_neg (by omega), if_neg (by omega), if_neg (by omega)]; exact y5)
          · refine z_aload_n X dX8_about_55 rfl ?_
            refine z_getI X dX8_about_56 f_X8_229 rfl (by first | assumption | exact zbigA.o (by assumption)) ?_
            refine z_goto X dX8_about_59 78 (by decide) ?_
            refine z_ireturn (st := []) X rfl hQ dX8_about_78 ⟨rfl, _, rfl, ?_⟩
            refine ⟨rfl, ?_⟩
            rcases hx : (sR σ).1 with _ | ⟨x1, x2, x3, x4⟩
            · rw [hx] at h5
              have h5' : m q 17 = -6 := h5
              exfalso; omega
            · rw [hx] at h5
              obtain ⟨y1, y2, y3, y4, y5, _⟩ := h5
              unfold sp_about
              rw [if_neg (by omega), hx]
              show _ = if w = 0 then x1 else if w = 1 then x2 else if w = 2 then x3 else if w = 3 then x4 else (sR σ).2.2.1
              first
                | (rw [if_pos (by omega)]; exact y1)
                | (rw [if_neg (by omega), if_pos (by omega)]; exact y2)
                | (rw [if_neg (by omega), if_neg (by omega), if_pos (by omega)]; exact y3)
                | (rw [if_neg (by omega), if_neg (by omega), if_neg (by omega), if_pos (by omega)]; exact y4)
                | (rw [if_neg (by omega), if_neg (by omega), if_neg (by omega), if_neg (by omega)]; exact y5)
        · refine z_aload_n X dX8_about_43 rfl ?_
          refine z_getI X dX8_about_44 f_X8_226 rfl (by first | assumption | exact zbigA.o (by assumption)) ?_
          refine z_goto X dX8_about_47 78 (by decide) ?_
          refine z_ireturn (st := []) X rfl hQ dX8_about_78 ⟨rfl, _, rfl, ?_⟩
          refine ⟨rfl, ?_⟩
          rcases hx : (sR σ).1 with _ | ⟨x1, x2, x3, x4⟩
          · rw [hx] at h5
            have h5' : m q 17 = -6 := h5
            exfalso; omega
          · rw [hx] at h5
            obtain ⟨y1, y2, y3, y4, y5, _⟩ := h5
            unfold sp_about
            rw [if_neg (by omega), hx]
            show _ = if w = 0 then x1 else if w = 1 then x2 else if w = 2 then x3 else if w = 3 then x4 else (sR σ).2.2.1
            first
              | (rw [if_pos (by omega)]; exact y1)
              | (rw [if_neg (by omega), if_pos (by omega)]; exact y2)
              | (rw [if_neg (by omega), if_neg (by omega), if_pos (by omega)]; exact y3)
              | (rw [if_neg (by omega), if_neg (by omega), if_neg (by omega), if_pos (by omega)]; exact y4)
              | (rw [if_neg (by omega), if_neg (by omega), if_neg (by omega), if_neg (by omega)]; exact y5)
      · refine z_aload_n X dX8_about_31 rfl ?_
        refine z_getI X dX8_about_32 f_X8_60 rfl (by first | assumption | exact zbigA.o (by assumption)) ?_
        refine z_goto X dX8_about_35 78 (by decide) ?_
        refine z_ireturn (st := []) X rfl hQ dX8_about_78 ⟨rfl, _, rfl, ?_⟩
        refine ⟨rfl, ?_⟩
        rcases hx : (sR σ).1 with _ | ⟨x1, x2, x3, x4⟩
        · rw [hx] at h5
          have h5' : m q 17 = -6 := h5
          exfalso; omega
        · rw [hx] at h5
          obtain ⟨y1, y2, y3, y4, y5, _⟩ := h5
          unfold sp_about
          rw [if_neg (by omega), hx]
          show _ = if w = 0 then x1 else if w = 1 then x2 else if w = 2 then x3 else if w = 3 then x4 else (sR σ).2.2.1
          first
            | (rw [if_pos (by omega)]; exact y1)
            | (rw [if_neg (by omega), if_pos (by omega)]; exact y2)
            | (rw [if_neg (by omega), if_neg (by omega), if_pos (by omega)]; exact y3)
            | (rw [if_neg (by omega), if_neg (by omega), if_neg (by omega), if_pos (by omega)]; exact y4)
            | (rw [if_neg (by omega), if_neg (by omega), if_neg (by omega), if_neg (by omega)]; exact y5)
    · refine z_bipush X dX8_about_24 (by decide) ?_
      refine z_ireturn (st := []) X rfl hQ dX8_about_26 ⟨rfl, _, rfl, ?_⟩
      refine ⟨rfl, ?_⟩
      rcases hrs with ⟨_, e, _⟩ | h
      · unfold sp_about
        rw [if_neg (by omega), e]
      · omega
  · refine z_bipush X dX8_about_12 (by decide) ?_
    refine z_ireturn (st := []) X rfl hQ dX8_about_14 ⟨rfl, _, rfl, ?_⟩
    refine ⟨rfl, ?_⟩
    unfold sp_about
    rw [if_pos (by omega)]
theorem zl8_fallOf {E : zCx} (X : zOK E cX8_fallOf RX8 5 (some .int) k_X8_fallOf.2.2.2.2) {A : zA} {m : zM} {q k N : Nat} {σ : zSt} (hA : zmodA A q) (hm : zMR q m σ) (ho : zStok σ) (hk : k < 4) (hN : N ≤ 100) {P : Int → zM → Prop} (hQ : zRet E (zpi A P) 0 0) {R : Int} (hP : P (if R = -6 then 0 else -100 - R) m) : ∀ (r i : Nat) (l4 : Option Value), i + r = (sK σ k).1 → zfp σ (sK σ k).2 N i r = R → zW E (0, 0) A m 2 [some (vr q), some (vi (k : Int)), some (vi (N : Int)), some (vi (i : Int)), l4] [] := by
  obtain ⟨⟨hO0, f0, f1, f2, f3, f4, f5, f6, f7, f8, f9, f10, f11, f12, f16, f24, f25⟩, ⟨g1, g2, g3⟩, ⟨g4, g5, g6, g7, g8, g9⟩, ⟨g10, g11, g12, g13⟩, g14, g15, g16⟩ := id hA
  have hk4 := (ho.2.2.1 k hk).1
  obtain ⟨q1, q2⟩ := hm.2.2.1 k hk
  intro r
  induction r with
  | zero =>
    intro i l4 hi hR
    refine z_iload_n X dX8_fallOf_2 rfl ?_
    refine z_aload_n X dX8_fallOf_3 rfl ?_
    refine z_getR X dX8_fallOf_4 f_X8_39 rfl (by first | assumption | exact zbigA.o (by assumption)) (by assumption) ?_
    refine z_iload_n X dX8_fallOf_7 rfl ?_
    refine z_iald X (k) dX8_fallOf_8 (by omega) (by assumption) (by omega) (by omega) ?_
    refine z_icmp_ge X dX8_fallOf_9 50 (by decide) (by omega) (by omega) (fun h9 => ?_) (fun h9 => ?_)
    · refine z_iconst X dX8_fallOf_50 ?_
      refine z_ireturn (st := []) X rfl hQ dX8_fallOf_51 ⟨rfl, _, rfl, ?_⟩
      have : R = -6 := hR.symm
      rw [if_pos this] at hP
      exact hP
    · exact absurd h9 (by omega)
  | succ r ih =>
    intro i l4 hi hR
    have hpt := (ho.2.2.1 k hk).2 i (by omega)
    have hs6 := hpt.1
    have hsu := (q2 i (by omega)).1
    unfold zfp at hR
    refine z_iload_n X dX8_fallOf_2 rfl ?_
    refine z_aload_n X dX8_fallOf_3 rfl ?_
    refine z_getR X dX8_fallOf_4 f_X8_39 rfl (by first | assumption | exact zbigA.o (by assumption)) (by assumption) ?_
    refine z_iload_n X dX8_fallOf_7 rfl ?_
    refine z_iald X (k) dX8_fallOf_8 (by omega) (by assumption) (by omega) (by omega) ?_
    refine z_icmp_ge X dX8_fallOf_9 50 (by decide) (by omega) (by omega) (fun h9 => ?_) (fun h9 => ?_)
    · exact absurd h9 (by omega)
    · refine z_aload_n X dX8_fallOf_12 rfl ?_
      refine z_aload_n X dX8_fallOf_13 rfl ?_
      refine z_getR X dX8_fallOf_14 f_X8_42 rfl (by first | assumption | exact zbigA.o (by assumption)) (by assumption) ?_
      refine z_iconst X dX8_fallOf_17 ?_
      refine z_iload_n X dX8_fallOf_18 rfl ?_
      refine z_imul X dX8_fallOf_19 ?_
      refine z_iload_n X dX8_fallOf_20 rfl ?_
      refine z_iadd X dX8_fallOf_21 ?_
      refine z_iald X (4 * k + i) dX8_fallOf_22 (by omega) (by assumption) (by omega) (by omega) ?_
      refine z_iconst X dX8_fallOf_23 ?_
      refine z_iload_n X dX8_fallOf_24 rfl ?_
      refine z_iconst X dX8_fallOf_25 ?_
      refine z_callVi X (As := [_, _, _, _]) dX8_fallOf_26 m_X8_fall i_X8_fall l_X8_129 (c_X8_fall (zg E) (s := ((sK σ k).2 i).1) hA hs6 (hm.1 _ hs6) (ho.1 _ hs6).1 (ho.1 _ hs6).2 0 0 N hsu rfl rfl (by omega) hN (Or.inl ⟨rfl, rfl⟩)) (by first | assumption | exact zbigA.o (by assumption)) rfl rfl rfl (Nat.le_of_ble_eq_true rfl) ⟨Nat.le_of_ble_eq_true rfl, Nat.le_of_ble_eq_true rfl⟩ ⟨Nat.le_of_ble_eq_true rfl, Nat.le_of_ble_eq_true rfl⟩ ⟨rfl, rfl⟩ (fun r9 m9 hm9 => ?_)
      obtain ⟨rfl, hr⟩ := hm9
      have hr : r9 = zfl σ ((sK σ k).2 i).1 0 0 N := hr
      have hR9 : zfl σ ((sK σ k).2 i).1 0 0 N = -6 ∨ ((0 : Nat) : Int) ≤ zfl σ ((sK σ k).2 i).1 0 0 N ∧ zfl σ ((sK σ k).2 i).1 0 0 N < ((0 : Nat) : Int) + (N : Int) := zff_bd _ _ _ 0 0 N
      rw [← hr] at hR hR9
      refine z_istore X dX8_fallOf_29 (fun y => [_, _, _, _, some (vi y)]) (by decide) (fun _ => rfl) (fun p hp => ?_)
      obtain rfl : p = r9 := by omega
      refine z_iload X dX8_fallOf_31 rfl ?_
      refine z_bipush X dX8_fallOf_33 (by decide) ?_
      refine z_icmp_eq X dX8_fallOf_35 44 (by decide) (by omega) (by omega) (fun h35 => ?_) (fun h35 => ?_)
      · rw [if_neg (by omega)] at hR
        refine z_iinc X dX8_fallOf_44 rfl (fun y => [_, _, _, some (vi y), _]) (fun _ => rfl) (fun z hz => ?_)
        obtain rfl : z = ((i + 1 : Nat) : Int) := by omega
        refine z_goto X dX8_fallOf_47 2 (by decide) ?_
        exact ih (i + 1) _ (by omega) hR
      · refine z_bipush X dX8_fallOf_38 (by decide) ?_
        refine z_iload X dX8_fallOf_40 rfl ?_
        refine z_isub X dX8_fallOf_42 ?_
        refine z_ireturn (st := []) X rfl hQ dX8_fallOf_43 ⟨rfl, _, rfl, ?_⟩
        rw [if_pos (by omega)] at hR
        rw [← hR, if_neg (by omega)] at hP
        exact hP
theorem c_X8_fallOf (G : zG) {A : zA} {m : zM} {q k N : Nat} {σ : zSt} {ki n : Int} (hA : zmodA A q) (hm : zMR q m σ) (ho : zStok σ) (hki : ki = (k : Int)) (hk : k < 4) (hn : n = (N : Int)) (hN : N ≤ 100) : zMet G k_X8_fallOf [vr q, vi ki, vi n] A m (zpi A (fun r m' => m = m' ∧ r = if zfc σ k N = -6 then 0 else -100 - zfc σ k N)) := by
  subst hki hn
  obtain ⟨⟨hO0, f0, f1, f2, f3, f4, f5, f6, f7, f8, f9, f10, f11, f12, f16, f24, f25⟩, ⟨g1, g2, g3⟩, ⟨g4, g5, g6, g7, g8, g9⟩, ⟨g10, g11, g12, g13⟩, g14, g15, g16⟩ := id hA
  refine zMet.of RX8 rfl (by decide +kernel) (Nat.le_of_ble_eq_true rfl) [some (vr q), some (vi (k : Int)), some (vi (N : Int)), none, none] rfl (fun E hG X hQ hNm => ?_)
  subst hG
  refine z_iconst X dX8_fallOf_0 ?_
  refine z_istore_n X dX8_fallOf_1 (fun y => [_, _, _, some (vi y), _]) (by decide) (fun _ => rfl) (fun x3_1 hx3_1 => ?_)
  subst hx3_1
  exact zl8_fallOf X hA hm ho hk hN hQ ⟨rfl, rfl⟩ (sK σ k).1 0 none (by omega) rfl

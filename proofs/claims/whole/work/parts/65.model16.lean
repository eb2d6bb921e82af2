/-! The model: figures, need, agree -/
theorem zMR.re {q : Nat} {m m' : zM} {σ : zSt} {x : zRs} (h : zMR q m σ) (h1 : m' q 21 = x.2.1 ∧ m' q 22 = x.2.2.2.2.1) (h2 : zmab m' q x.2 x.1) (hf : ∀ a j, (q + 4 ≤ a ∧ a < q + 14) → m' a j = m a j) (hq : ∀ y, y < 32 → zSq q y m m') : zMR q m' (wR σ x) := by
  obtain ⟨g1, g2, g3, g4, g5⟩ := h
  exact ⟨fun s hs => (g1 s hs).e (fun a j _ _ => hf _ _ (by omega)), fun d hd => (g2 d hd).e ⟨hf _ _ (by omega), hf _ _ (by omega), hf _ _ (by omega)⟩ (fun k hk => hq _ (by omega)), fun c hc => (g3 c hc).e (fun a j _ _ => hf _ _ (by omega)), h1, h2⟩
theorem zl8_copyres {E : zCx} {rm : Room} {cs : Nat × Nat} {A : zA} (X : zOK E cX8_figures RX8 7 (some .int) rm) {q nn : Nat} {S : Int} {v1 v2 v3 v4 : Value} {x5 : Int} {m0 : zM} (hA : zmodA A q) (hS : zsur S nn) (h15 : m0 q 15 = S)
    (K : ∀ m', (∀ j, j < nn → m' (q + 15) j = m0 (q + 14) j) → (∀ a j, a ≠ q + 15 → m' a j = m0 a j) → ∀ x6 : Int, zW E cs A m' 143 [some (vr q), some v1, some v2, some v3, some v4, some (vi x5), some (vi x6)] []) :
    ∀ (r i : Nat) (m : zM), i + r = nn → (∀ j, j < i → m (q + 15) j = m0 (q + 14) j) → (∀ a j, a ≠ q + 15 → m a j = m0 a j) → zW E cs A m 114 [some (vr q), some v1, some v2, some v3, some v4, some (vi x5), some (vi (i : Int))] [] := by
  obtain ⟨⟨hO0, f0, f1, f2, f3, f4, f5, f6, f7, f8, f9, f10, f11, f12, f16, f24, f25⟩, ⟨g1, g2, g3⟩, ⟨g4, g5, g6, g7, g8, g9⟩, ⟨g10, g11, g12, g13⟩, g14, g15, g16⟩ := id hA
  have hS' : (S = -6 ∧ nn = 0) ∨ (S = (nn : Int) ∧ nn ≤ 100) := hS
  intro r
  induction r with
  | zero =>
    intro i m hi hj hF
    have e1 : m q 15 = S := (hF _ _ (by omega)).trans h15
    refine z_iload X dX8_figures_114 rfl ?_
    refine z_aload_n X dX8_figures_116 rfl ?_
    refine z_getI X dX8_figures_117 f_X8_192 rfl (by first | assumption | exact zbigA.o (by assumption)) ?_
    refine z_icmp_ge X dX8_figures_120 143 (by decide) (by omega) (by omega) (fun h120 => ?_) (fun h120 => ?_)
    · exact K m (fun j g => hj j (by omega)) hF _
    · exact absurd h120 (by omega)
  | succ r ih =>
    intro i m hi hj hF
    have e1 : m q 15 = S := (hF _ _ (by omega)).trans h15
    refine z_iload X dX8_figures_114 rfl ?_
    refine z_aload_n X dX8_figures_116 rfl ?_
    refine z_getI X dX8_figures_117 f_X8_192 rfl (by first | assumption | exact zbigA.o (by assumption)) ?_
    refine z_icmp_ge X dX8_figures_120 143 (by decide) (by omega) (by omega) (fun h120 => ?_) (fun h120 => ?_)
    · exact absurd h120 (by omega)
    · refine z_aload_n X dX8_figures_123 rfl ?_
      refine z_getR X dX8_figures_124 f_X8_54 rfl (by first | assumption | exact zbigA.o (by assumption)) (by assumption) ?_
      refine z_iload X dX8_figures_127 rfl ?_
      refine z_aload_n X dX8_figures_129 rfl ?_
      refine z_getR X dX8_figures_130 f_X8_51 rfl (by first | assumption | exact zbigA.o (by assumption)) (by assumption) ?_
      refine z_iload X dX8_figures_133 rfl ?_
      refine z_iald X (i) dX8_figures_135 (by omega) (by assumption) (by omega) (by omega) ?_
      refine z_iast X (i) dX8_figures_136 (by omega) (by assumption) (by omega) (by omega) ?_
      refine z_iinc X dX8_figures_137 rfl (fun y => [_, _, _, _, _, _, some (vi y)]) (fun _ => rfl) (fun z hz => ?_)
      obtain rfl : z = ((i + 1 : Nat) : Int) := by omega
      refine z_goto X dX8_figures_140 114 (by decide) ?_
      refine ih (i + 1) _ (by omega) (fun j g => ?_) (fun a j ha => (zms_nq _ _ _ _ _ ha).trans (hF a j ha))
      by_cases hji : j = i
      · rw [hji, zms_same]; exact hF _ _ (by omega)
      · rw [zms_nk _ _ _ _ _ hji]; exact hj j (by omega)
theorem c_X8_figures (G : zG) {A : zA} {m : zM} {q : Nat} {σ : zSt} {c bs n N : Int} (hA : zmodA A q) (hm : zMR q m σ) (ho : zStok σ) (hc : zi32 c) (hb : zi32 bs) (hn : zi32 n) (hN : zi32 N) : zMet G k_X8_figures [vr q, vi c, vi bs, vi n, vi N] A m (zpi A (fun r m' => zMR q m' (sp_figures σ c bs n N).2 ∧ zmm q m m' ∧ r = (sp_figures σ c bs n N).1)) := by
  obtain ⟨⟨hO0, f0, f1, f2, f3, f4, f5, f6, f7, f8, f9, f10, f11, f12, f16, f24, f25⟩, ⟨g1, g2, g3⟩, ⟨g4, g5, g6, g7, g8, g9⟩, ⟨g10, g11, g12, g13⟩, g14, g15, g16⟩ := id hA
  unfold zi32 at hc hb hn hN
  refine zMet.of RX8 rfl (by decide +kernel) (Nat.le_of_ble_eq_true rfl) [some (vr q), some (vi c), some (vi bs), some (vi n), some (vi N), none, none] rfl (fun E hG X hQ hNm => ?_)
  subst hG
  refine z_iload_n X dX8_figures_0 rfl ?_
  refine z_callSi X (As := [_]) dX8_figures_1 m_X8_isConstant s_X8_isConstant l_X8_168 (c_X8_isConstant (zg E) hc) rfl rfl (Nat.le_of_ble_eq_true rfl) ⟨Nat.le_of_ble_eq_true rfl, Nat.le_of_ble_eq_true rfl⟩ ⟨Nat.le_of_ble_eq_true rfl, Nat.le_of_ble_eq_true rfl⟩ ⟨rfl, rfl⟩ (fun r1 m1 hm1 => ?_)
  obtain ⟨rfl, hr1⟩ := hm1
  refine z_if_ne X dX8_figures_4 9 (by decide) (by omega) (fun h4 => ?_) (fun h4 => ?_)
  · refine z_iload_n X dX8_figures_9 rfl ?_
    refine z_iload_n X dX8_figures_10 rfl ?_
    refine z_callSi X (As := [_, _]) dX8_figures_11 m_X8_fits s_X8_fits l_X8_213 (c_X8_fits (zg E) hb hn) rfl rfl (Nat.le_of_ble_eq_true rfl) ⟨Nat.le_of_ble_eq_true rfl, Nat.le_of_ble_eq_true rfl⟩ ⟨Nat.le_of_ble_eq_true rfl, Nat.le_of_ble_eq_true rfl⟩ ⟨rfl, rfl⟩ (fun r2 m1 hm1 => ?_)
    obtain ⟨rfl, hr2⟩ := hm1
    refine z_if_eq X dX8_figures_14 30 (by decide) (by omega) (fun h14 => ?_) (fun h14 => ?_)
    · refine z_bipush X dX8_figures_30 (by decide) ?_
      refine z_ireturn (st := []) X rfl hQ dX8_figures_32 ⟨rfl, _, rfl, ?_⟩
      unfold sp_figures
      rw [if_neg (by omega), if_pos (by omega)]
      exact ⟨hm, zmm.r, rfl⟩
    · refine z_iload X dX8_figures_17 rfl ?_
      refine z_i2l X dX8_figures_19 (by omega) ?_
      refine z_lconst X dX8_figures_20 1 rfl ?_
      refine z_ldc2 X dX8_figures_21 q_X8_127 (100) (by decide) ?_
      refine z_callSi X (As := [_, _, _]) dX8_figures_24 m_X8_in s_X8_in l_X8_86 (c_X8_in (zg E) (by omega) (by omega) (by omega)) rfl rfl (Nat.le_of_ble_eq_true rfl) ⟨Nat.le_of_ble_eq_true rfl, Nat.le_of_ble_eq_true rfl⟩ ⟨Nat.le_of_ble_eq_true rfl, Nat.le_of_ble_eq_true rfl⟩ ⟨rfl, rfl⟩ (fun r3 m1 hm1 => ?_)
      obtain ⟨rfl, hr3⟩ := hm1
      refine z_if_ne X dX8_figures_27 33 (by decide) (by omega) (fun h27 => ?_) (fun h27 => ?_)
      · obtain ⟨k, rfl⟩ : ∃ k : Nat, c = (k : Int) := ⟨c.toNat, by omega⟩
        obtain ⟨t, rfl⟩ : ∃ t : Nat, n = (t : Int) := ⟨n.toNat, by omega⟩
        obtain ⟨M, rfl⟩ : ∃ M : Nat, N = (M : Int) := ⟨N.toNat, by omega⟩
        refine z_aload_n X dX8_figures_33 rfl ?_
        refine z_iload_n X dX8_figures_34 rfl ?_
        refine z_iload X dX8_figures_35 rfl ?_
        refine z_callVi X (As := [_, _]) dX8_figures_37 m_X8_fallOf i_X8_fallOf l_X8_216 (c_X8_fallOf (zg E) (k := k) (N := M) hA hm ho rfl (by omega) rfl (by omega)) (by first | assumption | exact zbigA.o (by assumption)) rfl rfl rfl (Nat.le_of_ble_eq_true rfl) ⟨Nat.le_of_ble_eq_true rfl, Nat.le_of_ble_eq_true rfl⟩ ⟨Nat.le_of_ble_eq_true rfl, Nat.le_of_ble_eq_true rfl⟩ ⟨rfl, rfl⟩ (fun r9 m1 hm1 => ?_)
        obtain ⟨rfl, hr9⟩ := hm1
        have hR9 := zfc_bd σ k M
        have hr9b : (zfc σ k M = -6 ∧ r9 = 0) ∨ (zfc σ k M ≠ -6 ∧ r9 = -100 - zfc σ k M) := by
          by_cases h : zfc σ k M = -6
          · rw [if_pos h] at hr9; exact Or.inl ⟨h, hr9⟩
          · rw [if_neg h] at hr9; exact Or.inr ⟨h, hr9⟩
        have sp : sp_figures σ (k : Int) bs (t : Int) (M : Int) = if zfc σ k M ≠ -6 then (-100 - zfc σ k M, σ) else ((ztl σ k bs t M).2.1, wR σ (some ((k : Int), bs, (t : Int), (M : Int)), ztl σ k bs t M)) := by
          unfold sp_figures
          rw [if_neg (by omega), if_neg (by omega), Int.toNat_natCast, Int.toNat_natCast, Int.toNat_natCast]
        refine z_istore X dX8_figures_40 (fun y => [_, _, _, _, _, some (vi y), _]) (by decide) (fun _ => rfl) (fun p hp => ?_)
        obtain rfl : p = r9 := by omega
        refine z_iload X dX8_figures_42 rfl ?_
        refine z_if_ge X dX8_figures_44 50 (by decide) (by omega) (fun h44 => ?_) (fun h44 => ?_)
        · refine z_aload_n X dX8_figures_50 rfl ?_
          refine z_iload_n X dX8_figures_51 rfl ?_
          refine z_iload X dX8_figures_52 rfl ?_
          refine z_callVv X (As := [_, _]) dX8_figures_54 m_X8_build i_X8_build l_X8_219 (c_X8_build (zg E) (k := k) (N := M) hA hm ho rfl rfl (by omega) (by omega)) (by first | assumption | exact zbigA.o (by assumption)) rfl rfl rfl (Nat.le_of_ble_eq_true rfl) ⟨Nat.le_of_ble_eq_true rfl, Nat.le_of_ble_eq_true rfl⟩ ⟨Nat.le_of_ble_eq_true rfl, Nat.le_of_ble_eq_true rfl⟩ ⟨rfl, rfl⟩ (fun m2 hm2 => ?_)
          obtain ⟨hb2, hf2⟩ := hm2
          have hm2 := hm.k hf2
          refine z_aload_n X dX8_figures_57 rfl ?_
          refine z_iload_n X dX8_figures_58 rfl ?_
          refine z_iload_n X dX8_figures_59 rfl ?_
          refine z_iload_n X dX8_figures_60 rfl ?_
          refine z_iload X dX8_figures_61 rfl ?_
          refine z_callVv X (As := [_, _, _, _]) dX8_figures_63 m_X8_look i_X8_look l_X8_222 (c_X8_look (zg E) (k := k) (n := t) (N := M) hA hm2 ho rfl rfl rfl (by omega) (by omega) (by omega) (by omega) hb2 (by omega)) (by first | assumption | exact zbigA.o (by assumption)) rfl rfl rfl (Nat.le_of_ble_eq_true rfl) ⟨Nat.le_of_ble_eq_true rfl, Nat.le_of_ble_eq_true rfl⟩ ⟨Nat.le_of_ble_eq_true rfl, Nat.le_of_ble_eq_true rfl⟩ ⟨rfl, rfl⟩ (fun m3 hm3 => ?_)
          obtain ⟨⟨n13, n14, n15, n16⟩, hf3⟩ := hm3
          have hok := (ztl_ok (n := t) (b := bs) ho (show k < 4 by omega) (show zfc σ k M = -6 by omega) (by omega) (by omega)).2
          generalize hrv : ztl σ k bs t M = rv at *
          refine z_aload_n X dX8_figures_66 rfl ?_
          refine z_iload_n X dX8_figures_67 rfl ?_
          refine z_putI X dX8_figures_68 f_X8_60 rfl rfl (by first | assumption | exact zbigA.o (by assumption)) ?_
          refine z_aload_n X dX8_figures_71 rfl ?_
          refine z_iload_n X dX8_figures_72 rfl ?_
          refine z_putI X dX8_figures_73 f_X8_226 rfl rfl (by first | assumption | exact zbigA.o (by assumption)) ?_
          refine z_aload_n X dX8_figures_76 rfl ?_
          refine z_iload_n X dX8_figures_77 rfl ?_
          refine z_putI X dX8_figures_78 f_X8_229 rfl rfl (by first | assumption | exact zbigA.o (by assumption)) ?_
          refine z_aload_n X dX8_figures_81 rfl ?_
          refine z_iload X dX8_figures_82 rfl ?_
          refine z_putI X dX8_figures_84 f_X8_232 rfl rfl (by first | assumption | exact zbigA.o (by assumption)) ?_
          refine z_aload_n X dX8_figures_87 rfl ?_
          refine z_aload_n X dX8_figures_88 rfl ?_
          refine z_getI X dX8_figures_89 f_X8_185 rfl (by first | assumption | exact zbigA.o (by assumption)) ?_
          rw [show zms (zms (zms (zms m3 q 17 (k : Int)) q 18 bs) q 19 (t : Int)) q 20 (M : Int) q 13 = rv.1 by simp [zms]; exact n13]
          refine z_putI X dX8_figures_92 f_X8_235 rfl rfl (by first | assumption | exact zbigA.o (by assumption)) ?_
          refine z_aload_n X dX8_figures_95 rfl ?_
          refine z_aload_n X dX8_figures_96 rfl ?_
          refine z_getL X dX8_figures_97 f_X8_188 rfl (by first | assumption | exact zbigA.o (by assumption)) ?_
          rw [show zms (zms (zms (zms (zms m3 q 17 (k : Int)) q 18 bs) q 19 (t : Int)) q 20 (M : Int)) q 21 rv.1 q 14 = rv.2.2.2.1 by simp [zms]; exact n14]
          refine z_putL X dX8_figures_100 f_X8_238 rfl rfl (by assumption) ?_
          refine z_aload_n X dX8_figures_103 rfl ?_
          refine z_aload_n X dX8_figures_104 rfl ?_
          refine z_getI X dX8_figures_105 f_X8_192 rfl (by first | assumption | exact zbigA.o (by assumption)) ?_
          rw [show zms (zms (zms (zms (zms (zms m3 q 17 (k : Int)) q 18 bs) q 19 (t : Int)) q 20 (M : Int)) q 21 rv.1) q 22 rv.2.2.2.1 q 15 = rv.2.1 by simp [zms]; exact n15]
          refine z_putI X dX8_figures_108 f_X8_241 rfl rfl (by first | assumption | exact zbigA.o (by assumption)) ?_
          refine z_iconst X dX8_figures_111 ?_
          refine z_istore X dX8_figures_112 (fun y => [_, _, _, _, _, _, some (vi y)]) (by decide) (fun _ => rfl) (fun x6_112 hx6_112 => ?_)
          subst hx6_112
          refine zl8_copyres X (S := rv.2.1) (nn := rv.2.2.1) hA hok.2.1 (by simp [zms]; exact n15) (fun m4 w1 w2 x6 => ?_) rv.2.2.1 0 _ (by omega) (fun j hj => absurd hj (by omega)) (fun _ _ _ => rfl)
          have v : ∀ j, m4 q j = zms (zms (zms (zms (zms (zms (zms m3 q 17 (k : Int)) q 18 bs) q 19 (t : Int)) q 20 (M : Int)) q 21 rv.1) q 22 rv.2.2.2.1) q 23 rv.2.1 q j := fun j => w2 q j (by omega)
          have vn : ∀ a j, a ≠ q → a ≠ q + 15 → m4 a j = m3 a j := fun a j h1 h2 => (w2 a j h2).trans (by simp [zms, h1])
          have vd : ∀ j, j < rv.2.2.1 → m4 (q + 15) j = rv.2.2.2.2 j := fun j hj => (w1 j hj).trans (by simp [zms]; exact n16 j hj)
          have v17 : m4 q 17 = (k : Int) := by rw [v]; simp [zms]
          have v18 : m4 q 18 = bs := by rw [v]; simp [zms]
          have v19 : m4 q 19 = (t : Int) := by rw [v]; simp [zms]
          have v20 : m4 q 20 = (M : Int) := by rw [v]; simp [zms]
          have v21 : m4 q 21 = rv.1 := by rw [v]; simp [zms]
          have v22 : m4 q 22 = rv.2.2.2.1 := by rw [v]; simp [zms]
          have v23 : m4 q 23 = rv.2.1 := by rw [v]; simp [zms]
          have v15 : m4 q 15 = rv.2.1 := by rw [v]; simp [zms]; exact n15
          refine z_aload_n X dX8_figures_143 rfl ?_
          refine z_getI X dX8_figures_144 f_X8_192 rfl (by first | assumption | exact zbigA.o (by assumption)) ?_
          refine z_ireturn (st := []) X rfl hQ dX8_figures_147 ⟨rfl, _, rfl, ?_⟩
          rw [sp, if_neg (by omega), v15]
          refine ⟨hm2.re (x := (some ((k : Int), bs, (t : Int), (M : Int)), rv)) ⟨v21, v22⟩ ⟨v17, v18, v19, v20, v23, vd⟩ (fun a j ha => (vn a j (by omega) (by omega)).trans (hf3.1 a j (by omega) (by omega))) (fun y hy => (hf3.2.2 y (by omega)).t ⟨vn _ _ (by omega) (by omega), vn _ _ (by omega) (by omega), fun _ _ => vn _ _ (by omega) (by omega)⟩), fun a j ha => ((vn a j (by omega) (by omega)).trans (hf3.1 a j (by omega) (by omega))).trans (hf2.1 a j (by omega)), rfl⟩
        · refine z_iload X dX8_figures_47 rfl ?_
          refine z_ireturn (st := []) X rfl hQ dX8_figures_49 ⟨rfl, _, rfl, ?_⟩
          rw [sp, if_pos (by omega)]
          exact ⟨hm, zmm.r, by show p = _; omega⟩
      · refine z_bipush X dX8_figures_30 (by decide) ?_
        refine z_ireturn (st := []) X rfl hQ dX8_figures_32 ⟨rfl, _, rfl, ?_⟩
        unfold sp_figures
        rw [if_neg (by omega), if_pos (by omega)]
        exact ⟨hm, zmm.r, rfl⟩
  · refine z_iconst X dX8_figures_7 ?_
    refine z_ireturn (st := []) X rfl hQ dX8_figures_8 ⟨rfl, _, rfl, ?_⟩
    unfold sp_figures
    rw [if_pos (by omega)]
    exact ⟨hm, zmm.r, rfl⟩
theorem zl8_need {E : zCx} (X : zOK E cX8_need RX8 5 (some .int) k_X8_need.2.2.2.2) {A : zA} {q k n : Nat} {bs : Int} {m0 : zM} {σ : zSt} (hA : zmodA A q) (ho : zStok σ) (hk : k < 4) (hn : n ≤ 100) (hb : 2 ≤ bs ∧ bs ≤ 36) {R : Int} {P : Int → zM → Prop} (hQ : zRet E (zpi A P) 0 0) (hP : ∀ m', zMR q m' σ → zmm q m0 m' → P R m') :
    ∀ (r t : Nat) (m : zM), t + r = 101 → 1 ≤ t → znd σ k bs n t r = R → zMR q m σ → zbld q σ k (t - 1) m → zmm q m0 m → zW E (0, 0) A m 28 [some (vr q), some (vi (k : Int)), some (vi bs), some (vi (n : Int)), some (vi (t : Int))] [] := by
  obtain ⟨⟨hO0, f0, f1, f2, f3, f4, f5, f6, f7, f8, f9, f10, f11, f12, f16, f24, f25⟩, ⟨g1, g2, g3⟩, ⟨g4, g5, g6, g7, g8, g9⟩, ⟨g10, g11, g12, g13⟩, g14, g15, g16⟩ := id hA
  have hk4 := (ho.2.2.1 k hk).1
  intro r
  induction r with
  | zero =>
    intro t m ht ht1 hR hm hbl hF
    refine z_iload X dX8_need_28 rfl ?_
    refine z_bipush X dX8_need_30 (by decide) ?_
    refine z_icmp_gt X dX8_need_32 83 (by decide) (by omega) (by omega) (fun h32 => ?_) (fun h32 => ?_)
    · refine z_bipush X dX8_need_83 (by decide) ?_
      refine z_ireturn (st := []) X rfl hQ dX8_need_85 ⟨rfl, _, rfl, ?_⟩
      have : R = -5 := hR.symm
      have h := hP m hm hF
      rw [this] at h
      exact h
    · exact absurd h32 (by omega)
  | succ r ih =>
    intro t m ht ht1 hR hm hbl hF
    unfold znd at hR
    have hR9 := zfc_bd σ k t
    refine z_iload X dX8_need_28 rfl ?_
    refine z_bipush X dX8_need_30 (by decide) ?_
    refine z_icmp_gt X dX8_need_32 83 (by decide) (by omega) (by omega) (fun h32 => ?_) (fun h32 => ?_)
    · exact absurd h32 (by omega)
    · refine z_aload_n X dX8_need_35 rfl ?_
      refine z_iload_n X dX8_need_36 rfl ?_
      refine z_iload X dX8_need_37 rfl ?_
      refine z_callVi X (As := [_, _]) dX8_need_39 m_X8_fallOf i_X8_fallOf l_X8_216 (c_X8_fallOf (zg E) (k := k) (N := t) hA hm ho rfl hk rfl (by omega)) (by first | assumption | exact zbigA.o (by assumption)) rfl rfl rfl (Nat.le_of_ble_eq_true rfl) ⟨Nat.le_of_ble_eq_true rfl, Nat.le_of_ble_eq_true rfl⟩ ⟨Nat.le_of_ble_eq_true rfl, Nat.le_of_ble_eq_true rfl⟩ ⟨rfl, rfl⟩ (fun r9 m1 hm1 => ?_)
      obtain ⟨rfl, hr9⟩ := hm1
      have hr9b : (zfc σ k t = -6 ∧ r9 = 0) ∨ (zfc σ k t ≠ -6 ∧ r9 = -100 - zfc σ k t) := by
        by_cases h : zfc σ k t = -6
        · rw [if_pos h] at hr9; exact Or.inl ⟨h, hr9⟩
        · rw [if_neg h] at hr9; exact Or.inr ⟨h, hr9⟩
      refine z_if_ge X dX8_need_42 48 (by decide) (by omega) (fun h42 => ?_) (fun h42 => ?_)
      · rw [if_neg (by omega)] at hR
        refine z_aload_n X dX8_need_48 rfl ?_
        refine z_iload_n X dX8_need_49 rfl ?_
        refine z_iload X dX8_need_50 rfl ?_
        refine z_iconst X dX8_need_52 ?_
        refine z_isub X dX8_need_53 ?_
        refine z_callVv X (As := [_, _]) dX8_need_54 m_X8_goParts i_X8_goParts l_X8_208 (c_X8_goParts (zg E) (k := k) (t := t - 1) hA hm ho rfl (by omega) hk (by omega) hbl) (by first | assumption | exact zbigA.o (by assumption)) rfl rfl rfl (Nat.le_of_ble_eq_true rfl) ⟨Nat.le_of_ble_eq_true rfl, Nat.le_of_ble_eq_true rfl⟩ ⟨Nat.le_of_ble_eq_true rfl, Nat.le_of_ble_eq_true rfl⟩ ⟨rfl, rfl⟩ (fun m2 hm2 => ?_)
        obtain ⟨hb2, hf2⟩ := hm2
        rw [show t - 1 + 1 = t by omega] at hb2
        have hm2 := hm.k hf2
        refine z_aload_n X dX8_need_57 rfl ?_
        refine z_iload_n X dX8_need_58 rfl ?_
        refine z_iload_n X dX8_need_59 rfl ?_
        refine z_iload_n X dX8_need_60 rfl ?_
        refine z_iload X dX8_need_61 rfl ?_
        refine z_callVv X (As := [_, _, _, _]) dX8_need_63 m_X8_look i_X8_look l_X8_222 (c_X8_look (zg E) (k := k) (n := n) (N := t) hA hm2 ho rfl rfl rfl hk hb hn (by omega) hb2 (by omega)) (by first | assumption | exact zbigA.o (by assumption)) rfl rfl rfl (Nat.le_of_ble_eq_true rfl) ⟨Nat.le_of_ble_eq_true rfl, Nat.le_of_ble_eq_true rfl⟩ ⟨Nat.le_of_ble_eq_true rfl, Nat.le_of_ble_eq_true rfl⟩ ⟨rfl, rfl⟩ (fun m3 hm3 => ?_)
        obtain ⟨⟨n13, n14, n15, n16⟩, hf3⟩ := hm3
        have sb := ztl_sure_bd (n := n) (b := bs) (N := t) ho hk (by omega) hb hn
        have hm3 := hm2.lk hf3
        have hb3 := hb2.lk hf3 hk4
        have hF3 := (hF.t hf2.mm).t hf3.mm
        refine z_aload_n X dX8_need_66 rfl ?_
        refine z_getI X dX8_need_67 f_X8_192 rfl (by first | assumption | exact zbigA.o (by assumption)) ?_
        rw [n15]
        refine z_iload_n X dX8_need_70 rfl ?_
        refine z_icmp_lt X dX8_need_71 77 (by decide) (by omega) (by omega) (fun h71 => ?_) (fun h71 => ?_)
        · rw [if_neg (by omega)] at hR
          refine z_iinc X dX8_need_77 rfl (fun y => [_, _, _, _, some (vi y)]) (fun _ => rfl) (fun z hz => ?_)
          obtain rfl : z = ((t + 1 : Nat) : Int) := by omega
          refine z_goto X dX8_need_80 28 (by decide) ?_
          exact ih (t + 1) m3 (by omega) (by omega) hR hm3 (by rw [Nat.add_sub_cancel]; exact hb3) hF3
        · refine z_iload X dX8_need_74 rfl ?_
          refine z_ireturn (st := []) X rfl hQ dX8_need_76 ⟨rfl, _, rfl, ?_⟩
          rw [if_pos (by omega)] at hR
          have h := hP m3 hm3 hF3
          rw [← hR] at h
          exact h
      · refine z_bipush X dX8_need_45 (by decide) ?_
        refine z_ireturn (st := []) X rfl hQ dX8_need_47 ⟨rfl, _, rfl, ?_⟩
        rw [if_pos (by omega)] at hR
        have h := hP m hm hF
        rw [← hR] at h
        exact h
theorem c_X8_need (G : zG) {A : zA} {m : zM} {q : Nat} {σ : zSt} {c bs n : Int} (hA : zmodA A q) (hm : zMR q m σ) (ho : zStok σ) (hc : zi32 c) (hb : zi32 bs) (hn : zi32 n) : zMet G k_X8_need [vr q, vi c, vi bs, vi n] A m (zpi A (fun r m' => zMR q m' σ ∧ zmm q m m' ∧ r = sp_need σ c bs n)) := by
  obtain ⟨⟨hO0, f0, f1, f2, f3, f4, f5, f6, f7, f8, f9, f10, f11, f12, f16, f24, f25⟩, ⟨g1, g2, g3⟩, ⟨g4, g5, g6, g7, g8, g9⟩, ⟨g10, g11, g12, g13⟩, g14, g15, g16⟩ := id hA
  unfold zi32 at hc hb hn
  refine zMet.of RX8 rfl (by decide +kernel) (Nat.le_of_ble_eq_true rfl) [some (vr q), some (vi c), some (vi bs), some (vi n), none] rfl (fun E hG X hQ hNm => ?_)
  subst hG
  refine z_iload_n X dX8_need_0 rfl ?_
  refine z_callSi X (As := [_]) dX8_need_1 m_X8_isConstant s_X8_isConstant l_X8_168 (c_X8_isConstant (zg E) hc) rfl rfl (Nat.le_of_ble_eq_true rfl) ⟨Nat.le_of_ble_eq_true rfl, Nat.le_of_ble_eq_true rfl⟩ ⟨Nat.le_of_ble_eq_true rfl, Nat.le_of_ble_eq_true rfl⟩ ⟨rfl, rfl⟩ (fun r1 m1 hm1 => ?_)
  obtain ⟨rfl, hr1⟩ := hm1
  refine z_if_ne X dX8_need_4 9 (by decide) (by omega) (fun h4 => ?_) (fun h4 => ?_)
  · refine z_iload_n X dX8_need_9 rfl ?_
    refine z_iload_n X dX8_need_10 rfl ?_
    refine z_callSi X (As := [_, _]) dX8_need_11 m_X8_fits s_X8_fits l_X8_213 (c_X8_fits (zg E) hb hn) rfl rfl (Nat.le_of_ble_eq_true rfl) ⟨Nat.le_of_ble_eq_true rfl, Nat.le_of_ble_eq_true rfl⟩ ⟨Nat.le_of_ble_eq_true rfl, Nat.le_of_ble_eq_true rfl⟩ ⟨rfl, rfl⟩ (fun r2 m1 hm1 => ?_)
    obtain ⟨rfl, hr2⟩ := hm1
    refine z_if_ne X dX8_need_14 20 (by decide) (by omega) (fun h14 => ?_) (fun h14 => ?_)
    · obtain ⟨k, rfl⟩ : ∃ k : Nat, c = (k : Int) := ⟨c.toNat, by omega⟩
      obtain ⟨t, rfl⟩ : ∃ t : Nat, n = (t : Int) := ⟨n.toNat, by omega⟩
      refine z_aload_n X dX8_need_20 rfl ?_
      refine z_iload_n X dX8_need_21 rfl ?_
      refine z_callVv X (As := [_]) dX8_need_22 m_X8_beginParts i_X8_beginParts l_X8_205 (c_X8_beginParts (zg E) hA hm ho rfl (by omega)) (by first | assumption | exact zbigA.o (by assumption)) rfl rfl rfl (Nat.le_of_ble_eq_true rfl) ⟨Nat.le_of_ble_eq_true rfl, Nat.le_of_ble_eq_true rfl⟩ ⟨Nat.le_of_ble_eq_true rfl, Nat.le_of_ble_eq_true rfl⟩ ⟨rfl, rfl⟩ (fun m2 hm2 => ?_)
      obtain ⟨hb2, hf2⟩ := hm2
      refine z_iconst X dX8_need_25 ?_
      refine z_istore X dX8_need_26 (fun y => [_, _, _, _, some (vi y)]) (by decide) (fun _ => rfl) (fun x4_26 hx4_26 => ?_)
      subst hx4_26
      have sp : sp_need σ (k : Int) bs (t : Int) = znd σ k bs t 1 100 := by
        unfold sp_need
        rw [if_neg (by omega), if_neg (by omega), Int.toNat_natCast, Int.toNat_natCast]
      exact zl8_need X hA ho (k := k) (n := t) (by omega) (by omega) (by omega) hQ (fun m' g1 g2 => ⟨g1, hf2.mm.t g2, rfl⟩) 100 1 m2 (by omega) (by omega) sp.symm (hm.k hf2) hb2 zmm.r
    · refine z_bipush X dX8_need_17 (by decide) ?_
      refine z_ireturn (st := []) X rfl hQ dX8_need_19 ⟨rfl, _, rfl, ?_⟩
      unfold sp_need
      rw [if_neg (by omega), if_pos (by omega)]
      exact ⟨hm, zmm.r, rfl⟩
  · refine z_iconst X dX8_need_7 ?_
    refine z_ireturn (st := []) X rfl hQ dX8_need_8 ⟨rfl, _, rfl, ?_⟩
    unfold sp_need
    rw [if_pos (by omega)]
    exact ⟨hm, zmm.r, rfl⟩
theorem zl8_copyfirst {E : zCx} {rm : Room} {cs : Nat × Nat} {A : zA} (X : zOK E cX8_agree RX8 12 (some .int) rm) {q nn : Nat} {S : Int} {v1 v2 v3 v4 v5 : Value} {x6 x7 x8 : Int} {m0 : zM} (hA : zmodA A q) (hS : zsur S nn)
    (K : ∀ m', (∀ j, j < nn → m' (q + 16) j = m0 (q + 14) j) → (∀ a j, a ≠ q + 16 → m' a j = m0 a j) → ∀ x11 : Int, zW E cs A m' 142 [some (vr q), some v1, some v2, some v3, some v4, some v5, some (vi x6), some (vi x7), some (vl x8), none, some (vi S), some (vi x11)] []) :
    ∀ (r i : Nat) (m : zM), i + r = nn → (∀ j, j < i → m (q + 16) j = m0 (q + 14) j) → (∀ a j, a ≠ q + 16 → m a j = m0 a j) → zW E cs A m 115 [some (vr q), some v1, some v2, some v3, some v4, some v5, some (vi x6), some (vi x7), some (vl x8), none, some (vi S), some (vi (i : Int))] [] := by
  obtain ⟨⟨hO0, f0, f1, f2, f3, f4, f5, f6, f7, f8, f9, f10, f11, f12, f16, f24, f25⟩, ⟨g1, g2, g3⟩, ⟨g4, g5, g6, g7, g8, g9⟩, ⟨g10, g11, g12, g13⟩, g14, g15, g16⟩ := id hA
  have hS' : (S = -6 ∧ nn = 0) ∨ (S = (nn : Int) ∧ nn ≤ 100) := hS
  intro r
  induction r with
  | zero =>
    intro i m hi hj hF
    refine z_iload X dX8_agree_115 rfl ?_
    refine z_iload X dX8_agree_117 rfl ?_
    refine z_icmp_ge X dX8_agree_119 142 (by decide) (by omega) (by omega) (fun h119 => ?_) (fun h119 => ?_)
    · exact K m (fun j g => hj j (by omega)) hF _
    · exact absurd h119 (by omega)
  | succ r ih =>
    intro i m hi hj hF
    refine z_iload X dX8_agree_115 rfl ?_
    refine z_iload X dX8_agree_117 rfl ?_
    refine z_icmp_ge X dX8_agree_119 142 (by decide) (by omega) (by omega) (fun h119 => ?_) (fun h119 => ?_)
    · exact absurd h119 (by omega)
    · refine z_aload_n X dX8_agree_122 rfl ?_
      refine z_getR X dX8_agree_123 f_X8_57 rfl (by first | assumption | exact zbigA.o (by assumption)) (by assumption) ?_
      refine z_iload X dX8_agree_126 rfl ?_
      refine z_aload_n X dX8_agree_128 rfl ?_
      refine z_getR X dX8_agree_129 f_X8_51 rfl (by first | assumption | exact zbigA.o (by assumption)) (by assumption) ?_
      refine z_iload X dX8_agree_132 rfl ?_
      refine z_iald X (i) dX8_agree_134 (by omega) (by assumption) (by omega) (by omega) ?_
      refine z_iast X (i) dX8_agree_135 (by omega) (by assumption) (by omega) (by omega) ?_
      refine z_iinc X dX8_agree_136 rfl (fun y => [_, _, _, _, _, _, _, _, _, _, _, some (vi y)]) (fun _ => rfl) (fun z hz => ?_)
      obtain rfl : z = ((i + 1 : Nat) : Int) := by omega
      refine z_goto X dX8_agree_139 115 (by decide) ?_
      refine ih (i + 1) _ (by omega) (fun j g => ?_) (fun a j ha => (zms_nq _ _ _ _ _ ha).trans (hF a j ha))
      by_cases hji : j = i
      · rw [hji, zms_same]; exact hF _ _ (by omega)
      · rw [zms_nk _ _ _ _ _ hji]; exact hj j (by omega)
theorem zl8_cmp {E : zCx} (X : zOK E cX8_agree RX8 12 (some .int) k_X8_agree.2.2.2.2) {A : zA} {q na nb e : Nat} {v1 v2 v3 v4 v5 : Value} {x6 x7 x8 : Int} {m : zM} {da db : Nat → Int} (hA : zmodA A q) (hna : na ≤ 100) (hnb : nb ≤ 100) (h15 : m q 15 = (nb : Int)) (h1 : ∀ j, j < na → m (q + 16) j = da j ∧ 0 ≤ da j ∧ da j < 36) (h2 : ∀ j, j < nb → m (q + 14) j = db j ∧ 0 ≤ db j ∧ db j < 36) (he : e = min na nb) {R : Int} {P : Int → zM → Prop} (hQ : zRet E (zpi A P) 0 0) (hP : P R m) :
    ∀ (r i : Nat), i + r = e → zdif da db i r = R → zW E (0, 0) A m 202 [some (vr q), some v1, some v2, some v3, some v4, some v5, some (vi x6), some (vi x7), some (vl x8), none, some (vi (na : Int)), some (vi (i : Int))] [] := by
  obtain ⟨⟨hO0, f0, f1, f2, f3, f4, f5, f6, f7, f8, f9, f10, f11, f12, f16, f24, f25⟩, ⟨g1, g2, g3⟩, ⟨g4, g5, g6, g7, g8, g9⟩, ⟨g10, g11, g12, g13⟩, g14, g15, g16⟩ := id hA
  intro r
  induction r with
  | zero =>
    intro i hi hR
    refine z_iload X dX8_agree_202 rfl ?_
    refine z_iload X dX8_agree_204 rfl ?_
    refine z_icmp_ge X dX8_agree_206 246 (by decide) (by omega) (by omega) (fun h206 => ?_) (fun h206 => ?_)
    · refine z_bipush X dX8_agree_246 (by decide) ?_
      refine z_ireturn (st := []) X rfl hQ dX8_agree_248 ⟨rfl, _, rfl, ?_⟩
      have : R = -6 := hR.symm
      rw [this] at hP
      exact hP
    · refine z_iload X dX8_agree_209 rfl ?_
      refine z_aload_n X dX8_agree_211 rfl ?_
      refine z_getI X dX8_agree_212 f_X8_192 rfl (by first | assumption | exact zbigA.o (by assumption)) ?_
      refine z_icmp_ge X dX8_agree_215 246 (by decide) (by omega) (by omega) (fun h215 => ?_) (fun h215 => ?_)
      · refine z_bipush X dX8_agree_246 (by decide) ?_
        refine z_ireturn (st := []) X rfl hQ dX8_agree_248 ⟨rfl, _, rfl, ?_⟩
        have : R = -6 := hR.symm
        rw [this] at hP
        exact hP
      · exact absurd h215 (by omega)
  | succ r ih =>
    intro i hi hR
    unfold zdif at hR
    have w1 := h1 i (by omega)
    have w2 := h2 i (by omega)
    refine z_iload X dX8_agree_202 rfl ?_
    refine z_iload X dX8_agree_204 rfl ?_
    refine z_icmp_ge X dX8_agree_206 246 (by decide) (by omega) (by omega) (fun h206 => ?_) (fun h206 => ?_)
    · omega
    · refine z_iload X dX8_agree_209 rfl ?_
      refine z_aload_n X dX8_agree_211 rfl ?_
      refine z_getI X dX8_agree_212 f_X8_192 rfl (by first | assumption | exact zbigA.o (by assumption)) ?_
      refine z_icmp_ge X dX8_agree_215 246 (by decide) (by omega) (by omega) (fun h215 => ?_) (fun h215 => ?_)
      · omega
      · refine z_aload_n X dX8_agree_218 rfl ?_
        refine z_getR X dX8_agree_219 f_X8_57 rfl (by first | assumption | exact zbigA.o (by assumption)) (by assumption) ?_
        refine z_iload X dX8_agree_222 rfl ?_
        refine z_iald X (i) dX8_agree_224 (by omega) (by assumption) (by omega) (by omega) ?_
        refine z_aload_n X dX8_agree_225 rfl ?_
        refine z_getR X dX8_agree_226 f_X8_51 rfl (by first | assumption | exact zbigA.o (by assumption)) (by assumption) ?_
        refine z_iload X dX8_agree_229 rfl ?_
        refine z_iald X (i) dX8_agree_231 (by omega) (by assumption) (by omega) (by omega) ?_
        refine z_icmp_eq X dX8_agree_232 240 (by decide) (by omega) (by omega) (fun h232 => ?_) (fun h232 => ?_)
        · rw [if_pos (by omega)] at hR
          refine z_iinc X dX8_agree_240 rfl (fun y => [_, _, _, _, _, _, _, _, _, _, _, some (vi y)]) (fun _ => rfl) (fun z hz => ?_)
          obtain rfl : z = ((i + 1 : Nat) : Int) := by omega
          refine z_goto X dX8_agree_243 202 (by decide) ?_
          exact ih (i + 1) (by omega) hR
        · refine z_iload X dX8_agree_235 rfl ?_
          refine z_iconst X dX8_agree_237 ?_
          refine z_iadd X dX8_agree_238 ?_
          refine z_ireturn (st := []) X rfl hQ dX8_agree_239 ⟨rfl, _, rfl, ?_⟩
          rw [if_neg (by omega)] at hR
          rw [hR]
          exact hP
theorem c_X8_agree (G : zG) {A : zA} {m : zM} {q : Nat} {σ : zSt} {c d bs n N : Int} (hA : zmodA A q) (hm : zMR q m σ) (ho : zStok σ) (hc : zi32 c) (hd : zi32 d) (hb : zi32 bs) (hn : zi32 n) (hN : zi32 N) : zMet G k_X8_agree [vr q, vi c, vi d, vi bs, vi n, vi N] A m (zpi A (fun r m' => zMR q m' σ ∧ zmm q m m' ∧ r = sp_agree σ c d bs n N)) := by
  obtain ⟨⟨hO0, f0, f1, f2, f3, f4, f5, f6, f7, f8, f9, f10, f11, f12, f16, f24, f25⟩, ⟨g1, g2, g3⟩, ⟨g4, g5, g6, g7, g8, g9⟩, ⟨g10, g11, g12, g13⟩, g14, g15, g16⟩ := id hA
  unfold zi32 at hc hd hb hn hN
  refine zMet.of RX8 rfl (by decide +kernel) (Nat.le_of_ble_eq_true rfl) [some (vr q), some (vi c), some (vi d), some (vi bs), some (vi n), some (vi N), none, none, none, none, none, none] rfl (fun E hG X hQ hNm => ?_)
  subst hG
  refine z_iload_n X dX8_agree_0 rfl ?_
  refine z_callSi X (As := [_]) dX8_agree_1 m_X8_isConstant s_X8_isConstant l_X8_168 (c_X8_isConstant (zg E) hc) rfl rfl (Nat.le_of_ble_eq_true rfl) ⟨Nat.le_of_ble_eq_true rfl, Nat.le_of_ble_eq_true rfl⟩ ⟨Nat.le_of_ble_eq_true rfl, Nat.le_of_ble_eq_true rfl⟩ ⟨rfl, rfl⟩ (fun r1 m1 hm1 => ?_)
  obtain ⟨rfl, hr1⟩ := hm1
  refine z_if_eq X dX8_agree_4 14 (by decide) (by omega) (fun h4 => ?_) (fun h4 => ?_)
  · refine z_iconst X dX8_agree_14 ?_
    refine z_ireturn (st := []) X rfl hQ dX8_agree_15 ⟨rfl, _, rfl, ?_⟩
    unfold sp_agree
    rw [if_pos (by omega)]
    exact ⟨hm, zmm.r, rfl⟩
  · refine z_iload_n X dX8_agree_7 rfl ?_
    refine z_callSi X (As := [_]) dX8_agree_8 m_X8_isConstant s_X8_isConstant l_X8_168 (c_X8_isConstant (zg E) hd) rfl rfl (Nat.le_of_ble_eq_true rfl) ⟨Nat.le_of_ble_eq_true rfl, Nat.le_of_ble_eq_true rfl⟩ ⟨Nat.le_of_ble_eq_true rfl, Nat.le_of_ble_eq_true rfl⟩ ⟨rfl, rfl⟩ (fun r1' m1 hm1 => ?_)
    obtain ⟨rfl, hr1'⟩ := hm1
    refine z_if_ne X dX8_agree_11 16 (by decide) (by omega) (fun h11 => ?_) (fun h11 => ?_)
    · refine z_iload_n X dX8_agree_16 rfl ?_
      refine z_iload X dX8_agree_17 rfl ?_
      refine z_callSi X (As := [_, _]) dX8_agree_19 m_X8_fits s_X8_fits l_X8_213 (c_X8_fits (zg E) hb hn) rfl rfl (Nat.le_of_ble_eq_true rfl) ⟨Nat.le_of_ble_eq_true rfl, Nat.le_of_ble_eq_true rfl⟩ ⟨Nat.le_of_ble_eq_true rfl, Nat.le_of_ble_eq_true rfl⟩ ⟨rfl, rfl⟩ (fun r2 m1 hm1 => ?_)
      obtain ⟨rfl, hr2⟩ := hm1
      refine z_if_eq X dX8_agree_22 38 (by decide) (by omega) (fun h22 => ?_) (fun h22 => ?_)
      · refine z_bipush X dX8_agree_38 (by decide) ?_
        refine z_ireturn (st := []) X rfl hQ dX8_agree_40 ⟨rfl, _, rfl, ?_⟩
        unfold sp_agree
        rw [if_neg (by omega), if_pos (by omega)]
        exact ⟨hm, zmm.r, rfl⟩
      · refine z_iload X dX8_agree_25 rfl ?_
        refine z_i2l X dX8_agree_27 (by omega) ?_
        refine z_lconst X dX8_agree_28 1 rfl ?_
        refine z_ldc2 X dX8_agree_29 q_X8_127 (100) (by decide) ?_
        refine z_callSi X (As := [_, _, _]) dX8_agree_32 m_X8_in s_X8_in l_X8_86 (c_X8_in (zg E) (by omega) (by omega) (by omega)) rfl rfl (Nat.le_of_ble_eq_true rfl) ⟨Nat.le_of_ble_eq_true rfl, Nat.le_of_ble_eq_true rfl⟩ ⟨Nat.le_of_ble_eq_true rfl, Nat.le_of_ble_eq_true rfl⟩ ⟨rfl, rfl⟩ (fun r3 m1 hm1 => ?_)
        obtain ⟨rfl, hr3⟩ := hm1
        refine z_if_ne X dX8_agree_35 41 (by decide) (by omega) (fun h35 => ?_) (fun h35 => ?_)
        · obtain ⟨k, rfl⟩ : ∃ k : Nat, c = (k : Int) := ⟨c.toNat, by omega⟩
          obtain ⟨l, rfl⟩ : ∃ l : Nat, d = (l : Int) := ⟨d.toNat, by omega⟩
          obtain ⟨t, rfl⟩ : ∃ t : Nat, n = (t : Int) := ⟨n.toNat, by omega⟩
          obtain ⟨M, rfl⟩ : ∃ M : Nat, N = (M : Int) := ⟨N.toNat, by omega⟩
          refine z_aload_n X dX8_agree_41 rfl ?_
          refine z_iload_n X dX8_agree_42 rfl ?_
          refine z_iload X dX8_agree_43 rfl ?_
          refine z_callVi X (As := [_, _]) dX8_agree_45 m_X8_fallOf i_X8_fallOf l_X8_216 (c_X8_fallOf (zg E) (k := k) (N := M) hA hm ho rfl (by omega) rfl (by omega)) (by first | assumption | exact zbigA.o (by assumption)) rfl rfl rfl (Nat.le_of_ble_eq_true rfl) ⟨Nat.le_of_ble_eq_true rfl, Nat.le_of_ble_eq_true rfl⟩ ⟨Nat.le_of_ble_eq_true rfl, Nat.le_of_ble_eq_true rfl⟩ ⟨rfl, rfl⟩ (fun r9 m1 hm1 => ?_)
          obtain ⟨rfl, hr9⟩ := hm1
          have hR9 := zfc_bd σ k M
          have hr9b : (zfc σ k M = -6 ∧ r9 = 0) ∨ (zfc σ k M ≠ -6 ∧ r9 = -100 - zfc σ k M) := by
            by_cases h : zfc σ k M = -6
            · rw [if_pos h] at hr9; exact Or.inl ⟨h, hr9⟩
            · rw [if_neg h] at hr9; exact Or.inr ⟨h, hr9⟩
          have sp : sp_agree σ (k : Int) (l : Int) bs (t : Int) (M : Int) = if zfc σ k M ≠ -6 then -100 - zfc σ k M else if zfc σ l M ≠ -6 then -100 - zfc σ l M else zagr (ztl σ k bs t M).2.1 (ztl σ l bs t M).2.1 (ztl σ k bs t M).1 (ztl σ l bs t M).1 (ztl σ k bs t M).2.2.2.1 (ztl σ l bs t M).2.2.2.1 (ztl σ k bs t M).2.2.2.2 (ztl σ l bs t M).2.2.2.2 (min (ztl σ k bs t M).2.2.1 (ztl σ l bs t M).2.2.1) := by
            unfold sp_agree
            rw [if_neg (by omega), if_neg (by omega), Int.toNat_natCast, Int.toNat_natCast, Int.toNat_natCast, Int.toNat_natCast]
          refine z_istore X dX8_agree_48 (fun y => [_, _, _, _, _, _, some (vi y), _, _, _, _, _]) (by decide) (fun _ => rfl) (fun p hp => ?_)
          obtain rfl : p = r9 := by omega
          refine z_iload X dX8_agree_50 rfl ?_
          refine z_if_ge X dX8_agree_52 60 (by decide) (by omega) (fun h52 => ?_) (fun h52 => ?_)
          · refine z_aload_n X dX8_agree_60 rfl ?_
            refine z_iload_n X dX8_agree_61 rfl ?_
            refine z_iload X dX8_agree_62 rfl ?_
            refine z_callVi X (As := [_, _]) dX8_agree_64 m_X8_fallOf i_X8_fallOf l_X8_216 (c_X8_fallOf (zg E) (k := l) (N := M) hA hm ho rfl (by omega) rfl (by omega)) (by first | assumption | exact zbigA.o (by assumption)) rfl rfl rfl (Nat.le_of_ble_eq_true rfl) ⟨Nat.le_of_ble_eq_true rfl, Nat.le_of_ble_eq_true rfl⟩ ⟨Nat.le_of_ble_eq_true rfl, Nat.le_of_ble_eq_true rfl⟩ ⟨rfl, rfl⟩ (fun r8 m1 hm1 => ?_)
            obtain ⟨rfl, hr8⟩ := hm1
            have hR8 := zfc_bd σ l M
            have hr8b : (zfc σ l M = -6 ∧ r8 = 0) ∨ (zfc σ l M ≠ -6 ∧ r8 = -100 - zfc σ l M) := by
              by_cases h : zfc σ l M = -6
              · rw [if_pos h] at hr8; exact Or.inl ⟨h, hr8⟩
              · rw [if_neg h] at hr8; exact Or.inr ⟨h, hr8⟩
            refine z_istore X dX8_agree_67 (fun y => [_, _, _, _, _, _, some (vi y), _, _, _, _, _]) (by decide) (fun _ => rfl) (fun w hw => ?_)
            refine z_iload X dX8_agree_69 rfl ?_
            refine z_if_ge X dX8_agree_71 77 (by decide) (by omega) (fun h71 => ?_) (fun h71 => ?_)
            · refine z_aload_n X dX8_agree_77 rfl ?_
              refine z_iload_n X dX8_agree_78 rfl ?_
              refine z_iload X dX8_agree_79 rfl ?_
              refine z_callVv X (As := [_, _]) dX8_agree_81 m_X8_build i_X8_build l_X8_219 (c_X8_build (zg E) (k := k) (N := M) hA hm ho rfl rfl (by omega) (by omega)) (by first | assumption | exact zbigA.o (by assumption)) rfl rfl rfl (Nat.le_of_ble_eq_true rfl) ⟨Nat.le_of_ble_eq_true rfl, Nat.le_of_ble_eq_true rfl⟩ ⟨Nat.le_of_ble_eq_true rfl, Nat.le_of_ble_eq_true rfl⟩ ⟨rfl, rfl⟩ (fun m2 hm2 => ?_)
              obtain ⟨hb2, hf2⟩ := hm2
              have hm2 := hm.k hf2
              refine z_aload_n X dX8_agree_84 rfl ?_
              refine z_iload_n X dX8_agree_85 rfl ?_
              refine z_iload_n X dX8_agree_86 rfl ?_
              refine z_iload X dX8_agree_87 rfl ?_
              refine z_iload X dX8_agree_89 rfl ?_
              refine z_callVv X (As := [_, _, _, _]) dX8_agree_91 m_X8_look i_X8_look l_X8_222 (c_X8_look (zg E) (k := k) (n := t) (N := M) hA hm2 ho rfl rfl rfl (by omega) (by omega) (by omega) (by omega) hb2 (by omega)) (by first | assumption | exact zbigA.o (by assumption)) rfl rfl rfl (Nat.le_of_ble_eq_true rfl) ⟨Nat.le_of_ble_eq_true rfl, Nat.le_of_ble_eq_true rfl⟩ ⟨Nat.le_of_ble_eq_true rfl, Nat.le_of_ble_eq_true rfl⟩ ⟨rfl, rfl⟩ (fun m3 hm3 => ?_)
              obtain ⟨⟨n13, n14, n15, n16⟩, hf3⟩ := hm3
              have hm3 := hm2.lk hf3
              have hok := (ztl_ok (n := t) (b := bs) ho (show k < 4 by omega) (show zfc σ k M = -6 by omega) (by omega) (by omega)).2
              have hok2 := (ztl_ok (n := t) (b := bs) ho (show l < 4 by omega) (show zfc σ l M = -6 by omega) (by omega) (by omega)).2
              rw [if_neg (by omega), if_neg (by omega)] at sp
              have hF3 : zmm q m m3 := hf2.mm.t hf3.mm
              generalize hrv : ztl σ k bs t M = rv at *
              refine z_aload_n X dX8_agree_94 rfl ?_
              refine z_getI X dX8_agree_95 f_X8_185 rfl (by first | assumption | exact zbigA.o (by assumption)) ?_
              rw [n13]
              refine z_istore X dX8_agree_98 (fun y => [_, _, _, _, _, _, _, some (vi y), _, _, _, _]) (by decide) (fun _ => rfl) (fun x7_98 hx7_98 => ?_)
              subst hx7_98
              refine z_aload_n X dX8_agree_100 rfl ?_
              refine z_getL X dX8_agree_101 f_X8_188 rfl (by first | assumption | exact zbigA.o (by assumption)) ?_
              rw [n14]
              refine z_lstore X dX8_agree_104 (fun y => [_, _, _, _, _, _, _, _, some (vl y), _, _, _]) (by decide) (fun _ => rfl) (fun x8_104 hx8_104 => ?_)
              subst hx8_104
              refine z_aload_n X dX8_agree_106 rfl ?_
              refine z_getI X dX8_agree_107 f_X8_192 rfl (by first | assumption | exact zbigA.o (by assumption)) ?_
              rw [n15]
              refine z_istore X dX8_agree_110 (fun y => [_, _, _, _, _, _, _, _, _, _, some (vi y), _]) (by decide) (fun _ => rfl) (fun x10_110 hx10_110 => ?_)
              subst hx10_110
              refine z_iconst X dX8_agree_112 ?_
              refine z_istore X dX8_agree_113 (fun y => [_, _, _, _, _, _, _, _, _, _, _, some (vi y)]) (by decide) (fun _ => rfl) (fun x11_113 hx11_113 => ?_)
              subst hx11_113
              refine zl8_copyfirst X (S := rv.2.1) (nn := rv.2.2.1) (m0 := m3) hA hok.2.1 (fun m4 w1 w2 x11 => ?_) rv.2.2.1 0 m3 (by omega) (fun j hj => absurd hj (by omega)) (fun _ _ _ => rfl)
              have hm4 : zMR q m4 σ := hm3.e (fun a j ha => w2 a j (by omega)) (fun j _ => w2 q j (by omega)) (fun x _ => ⟨w2 _ _ (by omega), w2 _ _ (by omega), fun _ _ => w2 _ _ (by omega)⟩)
              have hF4 : zmm q m m4 := fun a j ha => (w2 a j (by omega)).trans (hF3 a j ha)
              refine z_aload_n X dX8_agree_142 rfl ?_
              refine z_iload_n X dX8_agree_143 rfl ?_
              refine z_iload X dX8_agree_144 rfl ?_
              refine z_callVv X (As := [_, _]) dX8_agree_146 m_X8_build i_X8_build l_X8_219 (c_X8_build (zg E) (k := l) (N := M) hA hm4 ho rfl rfl (by omega) (by omega)) (by first | assumption | exact zbigA.o (by assumption)) rfl rfl rfl (Nat.le_of_ble_eq_true rfl) ⟨Nat.le_of_ble_eq_true rfl, Nat.le_of_ble_eq_true rfl⟩ ⟨Nat.le_of_ble_eq_true rfl, Nat.le_of_ble_eq_true rfl⟩ ⟨rfl, rfl⟩ (fun m5 hm5 => ?_)
              obtain ⟨hb5, hf5⟩ := hm5
              have hm5 := hm4.k hf5
              refine z_aload_n X dX8_agree_149 rfl ?_
              refine z_iload_n X dX8_agree_150 rfl ?_
              refine z_iload_n X dX8_agree_151 rfl ?_
              refine z_iload X dX8_agree_152 rfl ?_
              refine z_iload X dX8_agree_154 rfl ?_
              refine z_callVv X (As := [_, _, _, _]) dX8_agree_156 m_X8_look i_X8_look l_X8_222 (c_X8_look (zg E) (k := l) (n := t) (N := M) hA hm5 ho rfl rfl rfl (by omega) (by omega) (by omega) (by omega) hb5 (by omega)) (by first | assumption | exact zbigA.o (by assumption)) rfl rfl rfl (Nat.le_of_ble_eq_true rfl) ⟨Nat.le_of_ble_eq_true rfl, Nat.le_of_ble_eq_true rfl⟩ ⟨Nat.le_of_ble_eq_true rfl, Nat.le_of_ble_eq_true rfl⟩ ⟨rfl, rfl⟩ (fun m6 hm6 => ?_)
              obtain ⟨⟨o13, o14, o15, o16⟩, hf6⟩ := hm6
              have hm6 := hm5.lk hf6
              have hF6 : zmm q m m6 := (hF4.t hf5.mm).t hf6.mm
              have hfi : ∀ j, j < rv.2.2.1 → m6 (q + 16) j = rv.2.2.2.2 j := fun j hj => (((hf6.1 _ _ (by omega) (by omega)).trans (hf5.1 _ _ (by omega))).trans (w1 j hj)).trans (n16 j hj)
              generalize hrw : ztl σ l bs t M = rw' at *
              have S1 : (rv.2.1 = -6 ∧ rv.2.2.1 = 0) ∨ (rv.2.1 = (rv.2.2.1 : Int) ∧ rv.2.2.1 ≤ 100) := hok.2.1
              have S2 : (rw'.2.1 = -6 ∧ rw'.2.2.1 = 0) ∨ (rw'.2.1 = (rw'.2.2.1 : Int) ∧ rw'.2.2.1 ≤ 100) := hok2.2.1
              obtain ⟨a1', -, a3', a4'⟩ := hok
              obtain ⟨b1', -, b3', b4'⟩ := hok2
              refine z_iload X dX8_agree_159 rfl ?_
              refine z_bipush X dX8_agree_161 (by decide) ?_
              refine z_icmp_eq X dX8_agree_163 175 (by decide) (by omega) (by omega) (fun h163 => ?_) (fun h163 => ?_)
              · refine z_bipush X dX8_agree_175 (by decide) ?_
                refine z_ireturn (st := []) X rfl hQ dX8_agree_177 ⟨rfl, _, rfl, ?_⟩
                refine ⟨hm6, hF6, ?_⟩
                rw [sp]
                unfold zagr
                rw [if_pos (by omega)]
              · refine z_aload_n X dX8_agree_166 rfl ?_
                refine z_getI X dX8_agree_167 f_X8_192 rfl (by first | assumption | exact zbigA.o (by assumption)) ?_
                refine z_bipush X dX8_agree_170 (by decide) ?_
                refine z_icmp_ne X dX8_agree_172 178 (by decide) (by omega) (by omega) (fun h172 => ?_) (fun h172 => ?_)
                · refine z_iload X dX8_agree_178 rfl ?_
                  refine z_aload_n X dX8_agree_180 rfl ?_
                  refine z_getI X dX8_agree_181 f_X8_185 rfl (by first | assumption | exact zbigA.o (by assumption)) ?_
                  refine z_icmp_ne X dX8_agree_184 197 (by decide) (by omega) (by omega) (fun h184 => ?_) (fun h184 => ?_)
                  · refine z_iconst X dX8_agree_197 ?_
                    refine z_ireturn (st := []) X rfl hQ dX8_agree_198 ⟨rfl, _, rfl, ?_⟩
                    refine ⟨hm6, hF6, ?_⟩
                    rw [sp]
                    unfold zagr
                    rw [if_neg (by omega), if_pos (by omega)]
                  · refine z_lload X dX8_agree_187 rfl ?_
                    refine z_aload_n X dX8_agree_189 rfl ?_
                    refine z_getL X dX8_agree_190 f_X8_188 rfl (by first | assumption | exact zbigA.o (by assumption)) ?_
                    refine z_lcmp_eq X dX8_agree_193 dX8_agree_194 199 (by decide) (by omega) (by omega) (fun h193 => ?_) (fun h193 => ?_)
                    · refine z_iconst X dX8_agree_199 ?_
                      refine z_istore X dX8_agree_200 (fun y => [_, _, _, _, _, _, _, _, _, _, _, some (vi y)]) (by decide) (fun _ => rfl) (fun x11_200 hx11_200 => ?_)
                      subst hx11_200
                      have sp2 : sp_agree σ (k : Int) (l : Int) bs (t : Int) (M : Int) = zdif rv.2.2.2.2 rw'.2.2.2.2 0 (min rv.2.2.1 rw'.2.2.1) := by
                        rw [sp]
                        unfold zagr
                        rw [if_neg (by omega), if_neg (by omega)]
                      rw [show rv.2.1 = (rv.2.2.1 : Int) by omega]
                      exact zl8_cmp X (na := rv.2.2.1) (nb := rw'.2.2.1) (da := rv.2.2.2.2) (db := rw'.2.2.2.2) hA (by omega) (by omega) (by omega) (fun j hj => ⟨hfi j hj, a4' j hj⟩) (fun j hj => ⟨o16 j hj, b4' j hj⟩) rfl hQ ⟨hm6, hF6, sp2.symm⟩ (min rv.2.2.1 rw'.2.2.1) 0 (by omega) rfl
                    · refine z_iconst X dX8_agree_197 ?_
                      refine z_ireturn (st := []) X rfl hQ dX8_agree_198 ⟨rfl, _, rfl, ?_⟩
                      refine ⟨hm6, hF6, ?_⟩
                      rw [sp]
                      unfold zagr
                      rw [if_neg (by omega), if_pos (by omega)]
                · refine z_bipush X dX8_agree_175 (by decide) ?_
                  refine z_ireturn (st := []) X rfl hQ dX8_agree_177 ⟨rfl, _, rfl, ?_⟩
                  refine ⟨hm6, hF6, ?_⟩
                  rw [sp]
                  unfold zagr
                  rw [if_pos (by omega)]
            · refine z_iload X dX8_agree_74 rfl ?_
              refine z_ireturn (st := []) X rfl hQ dX8_agree_76 ⟨rfl, _, rfl, ?_⟩
              rw [sp, if_neg (by omega), if_pos (by omega)]
              exact ⟨hm, zmm.r, by omega⟩
          · refine z_iload X dX8_agree_55 rfl ?_
            refine z_goto X dX8_agree_57 67 (by decide) ?_
            refine z_istore X dX8_agree_67 (fun y => [_, _, _, _, _, _, some (vi y), _, _, _, _, _]) (by decide) (fun _ => rfl) (fun w hw => ?_)
            refine z_iload X dX8_agree_69 rfl ?_
            refine z_if_ge X dX8_agree_71 77 (by decide) (by omega) (fun h71 => ?_) (fun h71 => ?_)
            · exfalso; omega
            · refine z_iload X dX8_agree_74 rfl ?_
              refine z_ireturn (st := []) X rfl hQ dX8_agree_76 ⟨rfl, _, rfl, ?_⟩
              rw [sp, if_pos (by omega)]
              exact ⟨hm, zmm.r, by omega⟩
        · refine z_bipush X dX8_agree_38 (by decide) ?_
          refine z_ireturn (st := []) X rfl hQ dX8_agree_40 ⟨rfl, _, rfl, ?_⟩
          unfold sp_agree
          rw [if_neg (by omega), if_pos (by omega)]
          exact ⟨hm, zmm.r, rfl⟩
    · refine z_iconst X dX8_agree_14 ?_
      refine z_ireturn (st := []) X rfl hQ dX8_agree_15 ⟨rfl, _, rfl, ?_⟩
      unfold sp_agree
      rw [if_pos (by omega)]
      exact ⟨hm, zmm.r, rfl⟩

/-! The model: look -/
theorem zbld.w {q p j : Nat} {σ : zSt} {k t : Nat} {m : zM} {v : Int} (h : zbld q σ k t m) (hp : p < q + 1 ∨ q + 3 < p) : zbld q σ k t (zms m p j v) := fun i hi => ⟨(h i hi).1.w hp, fun ht => ((h i hi).2 ht).w hp⟩
theorem zMR.lk {q : Nat} {m m' : zM} {σ : zSt} (h : zMR q m σ) (hf : zlkf q m m') : zMR q m' σ := h.e (fun a j _ => hf.1 a j (by omega) (by omega)) (fun j hj => hf.2.1 j (by omega)) (fun x hx => hf.2.2 x (by omega))
theorem zsp4.lk {q a : Nat} {m m' : zM} {z : zq4} (h : zsp4 m q a z) (hf : zlkf q m m') (ha : a + 3 < 52) : zsp4 m' q a z := ⟨h.1.q (hf.2.2 _ (by omega)), h.2.1.q (hf.2.2 _ (by omega)), h.2.2.1.q (hf.2.2 _ (by omega)), h.2.2.2.q (hf.2.2 _ (by omega))⟩
theorem zbld.lk {q : Nat} {σ : zSt} {k t : Nat} {m m' : zM} (h : zbld q σ k t m) (hf : zlkf q m m') (hk : (sK σ k).1 ≤ 4) : zbld q σ k t m' := fun i hi => ⟨(h i hi).1.lk hf (by omega), fun ht => ((h i hi).2 ht).q (hf.2.2 _ (by omega))⟩
theorem zlkf.t {q : Nat} {m m1 m2 : zM} (h : zlkf q m m1) (g : zlkf q m1 m2) : zlkf q m m2 := ⟨fun a j h1 h2 => (g.1 a j h1 h2).trans (h.1 a j h1 h2), fun j hj => (g.2.1 j hj).trans (h.2.1 j hj), fun x hx => (h.2.2 x hx).t (g.2.2 x hx)⟩
theorem zsame_sym {da db : Nat → Int} {n s : Nat} (h : zsame da db n s) : zsame db da n s := ⟨h.1, fun k hk => (h.2.1 k hk).symm, h.2.2.elim Or.inl (fun g => Or.inr (fun e => g e.symm))⟩
theorem c_X8_look (G : zG) {A : zA} {m : zM} {q k n N : Nat} {σ : zSt} {ki b ni Ni : Int} (hA : zmodA A q) (hm : zMR q m σ) (ho : zStok σ) (hki : ki = (k : Int)) (hni : ni = (n : Int)) (hNi : Ni = (N : Int)) (hk : k < 4) (hb2 : 2 ≤ b ∧ b ≤ 36) (hn : n ≤ 100) (hN : 1 ≤ N ∧ N ≤ 100) (hb : zbld q σ k N m) (hfz : zfc σ k N = -6) : zMet G k_X8_look [vr q, vi ki, vi b, vi ni, vi Ni] A m (zpv A (fun m' => zmnow m' q (ztl σ k b n N) ∧ zlkf q m m')) := by
  subst hki hni hNi
  obtain ⟨⟨hO0, f0, f1, f2, f3, f4, f5, f6, f7, f8, f9, f10, f11, f12, f16, f24, f25⟩, ⟨g1, g2, g3⟩, ⟨g4, g5, g6, g7, g8, g9⟩, ⟨g10, g11, g12, g13⟩, g14, g15, g16⟩ := id hA
  have q1 := (hm.2.2.1 k hk).1
  have hk4 := (ho.2.2.1 k hk).1
  obtain ⟨⟨hD0, hLH⟩, -⟩ := ztl_ok (n := n) (b := b) ho hk hfz hb2 hn
  have hF0 : zlkf q m (zms (zms (zms m q 13 0) q 14 0) q 15 (-6)) := ((zlkf.r.wq (by omega)).wq (by omega)).wq (by omega)
  have hm1 := hm.lk hF0
  have hb1 := ((hb.w (p := q) (j := 13) (v := 0) (by omega)).w (p := q) (j := 14) (v := 0) (by omega)).w (p := q) (j := 15) (v := -6) (by omega)
  have f13 : zms (zms (zms m q 13 0) q 14 0) q 15 (-6) q 13 = 0 := by simp [zms]
  have f14 : zms (zms (zms m q 13 0) q 14 0) q 15 (-6) q 14 = 0 := by simp [zms]
  have f15 : zms (zms (zms m q 13 0) q 14 0) q 15 (-6) q 15 = -6 := by simp [zms]
  have e1 : zms (zms (zms m q 13 0) q 14 0) q 15 (-6) (q + 10) k = ((sK σ k).1 : Int) := (hm1.2.2.1 k hk).1
  refine zMet.of RX8 rfl (by decide +kernel) (Nat.le_of_ble_eq_true rfl) [some (vr q), some (vi (k : Int)), some (vi b), some (vi (n : Int)), some (vi (N : Int)), none, none, none, none, none, none, none, none] rfl (fun E hG X hQ hNm => ?_)
  subst hG
  refine z_aload_n X dX8_look_0 rfl ?_
  refine z_iconst X dX8_look_1 ?_
  refine z_putI X dX8_look_2 f_X8_185 rfl rfl (by first | assumption | exact zbigA.o (by assumption)) ?_
  refine z_aload_n X dX8_look_5 rfl ?_
  refine z_lconst X dX8_look_6 0 rfl ?_
  refine z_putL X dX8_look_7 f_X8_188 rfl rfl (by assumption) ?_
  refine z_aload_n X dX8_look_10 rfl ?_
  refine z_bipush X dX8_look_11 (by decide) ?_
  refine z_putI X dX8_look_13 f_X8_192 rfl rfl (by first | assumption | exact zbigA.o (by assumption)) ?_
  refine z_aload_n X dX8_look_16 rfl ?_
  refine z_getR X dX8_look_17 f_X8_39 rfl (by first | assumption | exact zbigA.o (by assumption)) (by assumption) ?_
  refine z_iload_n X dX8_look_20 rfl ?_
  refine z_iald X (k) dX8_look_21 (by omega) (by assumption) (by omega) (by omega) ?_
  refine z_if_ne X dX8_look_22 26 (by decide) (by omega) (fun h22 => ?_) (fun h22 => ?_)
  · refine z_aload_n X dX8_look_26 rfl ?_
    refine z_iload_n X dX8_look_27 rfl ?_
    refine z_iload X dX8_look_28 rfl ?_
    refine z_callVv X (As := [_, _]) dX8_look_30 m_X8_combine i_X8_combine l_X8_195 (c_X8_combine (zg E) hA hm1 ho rfl rfl hk hN hb1) (by first | assumption | exact zbigA.o (by assumption)) rfl rfl rfl (Nat.le_of_ble_eq_true rfl) ⟨Nat.le_of_ble_eq_true rfl, Nat.le_of_ble_eq_true rfl⟩ ⟨Nat.le_of_ble_eq_true rfl, Nat.le_of_ble_eq_true rfl⟩ ⟨rfl, rfl⟩ (fun m2 hm2 => ?_)
    obtain ⟨hL, hH, hD, bL, bH, bD, hf2⟩ := hm2
    have hF2 := hF0.k hf2 (fun x hx => hx)
    have c13 : m2 q 13 = 0 := (hf2.1 _ _ (by omega)).trans f13
    have c14 : m2 q 14 = 0 := (hf2.1 _ _ (by omega)).trans f14
    have c15 : m2 q 15 = -6 := (hf2.1 _ _ (by omega)).trans f15
    have etl : ztl σ k b n N = zrd (zlh σ (sK σ k).2 N (sK σ k).1).1 (zlh σ (sK σ k).2 N (sK σ k).1).2.1 (zlh σ (sK σ k).2 N (sK σ k).1).2.2 b n := rfl
    rw [etl] at hQ
    generalize (zlh σ (sK σ k).2 N (sK σ k).1).1 = L at *
    generalize (zlh σ (sK σ k).2 N (sK σ k).1).2.1 = H at *
    generalize (zlh σ (sK σ k).2 N (sK σ k).1).2.2 = D at *
    obtain ⟨nl, l1, l2, l3, l4⟩ := hL.n0
    obtain ⟨nh, y1, y2, y3, y4⟩ := hH.n0
    have s1 : 0 < L → zsgn L H = 1 ∧ zlo L H = (L.natAbs : Int) ∧ zhi L H = (H.natAbs : Int) := fun h => by unfold zsgn zlo zhi; simp [h]; omega
    have s2 : L ≤ 0 → H < 0 → zsgn L H = -1 ∧ zlo L H = (H.natAbs : Int) ∧ zhi L H = (L.natAbs : Int) := fun h g => by unfold zsgn zlo zhi; simp [g, show ¬ 0 < L by omega]; omega
    have s3 : L ≤ 0 → 0 ≤ H → zsgn L H = 0 := fun h g => by unfold zsgn; rw [if_neg (by omega), if_neg (by omega)]
    have tail2 : ∀ (sg x5 x6 : Int), sg = zsgn L H → sg ≠ 0 → ((zlo L H = (L.natAbs : Int) ∧ zhi L H = (H.natAbs : Int)) ∨ (zlo L H = (H.natAbs : Int) ∧ zhi L H = (L.natAbs : Int))) → zlo L H ≤ zhi L H → zW E (0, 0) A m2 109 [some (vr q), some (vi (k : Int)), some (vi b), some (vi (n : Int)), some (vi (N : Int)), some (vi x5), some (vi x6), none, none, none, none, none, none] [vi sg, vr q] := by
      intro sg x5 x6 hsg hsg0 hrel hle
      have hL := ((hL.w (a := q) (k := 13) (y := sg) (by omega)).sg (u := (L.natAbs : Int)) (b := 0) (by omega) (by omega)).w3 (s := 53) (b := 0) (by omega)
      have hH := ((hH.w (a := q) (k := 13) (y := sg) (by omega)).w3 (s := 52) (b := 0) (by omega)).sg (u := (H.natAbs : Int)) (b := 0) (by omega) (by omega)
      have hD := ((hD.w (a := q) (k := 13) (y := sg) (by omega)).w3 (s := 52) (b := 0) (by omega)).w3 (s := 53) (b := 0) (by omega)
      have hF3 : zlkf q m (zms (zms (zms m2 q 13 sg) (q + 3) 52 0) (q + 3) 53 0) := ((hF2.wq (by omega)).w3 (by omega)).w3 (by omega)
      have c13 : zms (zms (zms m2 q 13 sg) (q + 3) 52 0) (q + 3) 53 0 q 13 = sg := by rw [zms_nq _ _ _ _ _ (by omega), zms_nq _ _ _ _ _ (by omega), zms_same]
      have c14 : zms (zms (zms m2 q 13 sg) (q + 3) 52 0) (q + 3) 53 0 q 14 = 0 := by rw [zms_nq _ _ _ _ _ (by omega), zms_nq _ _ _ _ _ (by omega), zms_nk _ _ _ _ _ (by omega)]; exact c14
      have c15 : zms (zms (zms m2 q 13 sg) (q + 3) 52 0) (q + 3) 53 0 q 15 = -6 := by rw [zms_nq _ _ _ _ _ (by omega), zms_nq _ _ _ _ _ (by omega), zms_nk _ _ _ _ _ (by omega)]; exact c15
      have lq0 : 0 ≤ (L.natAbs : Int) / D := Int.ediv_nonneg (by omega) (by omega)
      have hq0 : 0 ≤ (H.natAbs : Int) / D := Int.ediv_nonneg (by omega) (by omega)
      have lq1 : (L.natAbs : Int) < D * 4611686018427387904 → (L.natAbs : Int) / D < 4611686018427387904 := fun h => Int.ediv_lt_of_lt_mul hD0 (by rw [Int.mul_comm]; exact h)
      have hq1 : (H.natAbs : Int) < D * 4611686018427387904 → (H.natAbs : Int) / D < 4611686018427387904 := fun h => Int.ediv_lt_of_lt_mul hD0 (by rw [Int.mul_comm]; exact h)
      refine z_putI X dX8_look_109 f_X8_185 rfl rfl (by first | assumption | exact zbigA.o (by assumption)) ?_
      refine z_aload_n X dX8_look_112 rfl ?_
      refine z_getR X dX8_look_113 f_X8_17 rfl (by first | assumption | exact zbigA.o (by assumption)) (by assumption) ?_
      refine z_bipush X dX8_look_116 (by decide) ?_
      refine z_iconst X dX8_look_118 ?_
      refine z_bast X (52) dX8_look_119 (by omega) (by first | exact Or.inl rfl | exact Or.inr rfl | omega) (by assumption) (by omega) (by omega) ?_
      refine z_aload_n X dX8_look_120 rfl ?_
      refine z_getR X dX8_look_121 f_X8_17 rfl (by first | assumption | exact zbigA.o (by assumption)) (by assumption) ?_
      refine z_bipush X dX8_look_124 (by decide) ?_
      refine z_iconst X dX8_look_126 ?_
      refine z_bast X (53) dX8_look_127 (by omega) (by first | exact Or.inl rfl | exact Or.inr rfl | omega) (by assumption) (by omega) (by omega) ?_
      refine z_aload_n X dX8_look_128 rfl ?_
      refine z_bipush X dX8_look_129 (by decide) ?_
      refine z_callVl X (As := [_]) dX8_look_131 m_X8_wholeOf i_X8_wholeOf l_X8_198 (c_X8_wholeOf (zg E) (s := 52) hA rfl (Or.inl rfl) (by omega) hD0 hL hD bD) (by first | assumption | exact zbigA.o (by assumption)) rfl rfl rfl (Nat.le_of_ble_eq_true rfl) ⟨Nat.le_of_ble_eq_true rfl, Nat.le_of_ble_eq_true rfl⟩ ⟨Nat.le_of_ble_eq_true rfl, Nat.le_of_ble_eq_true rfl⟩ ⟨rfl, rfl⟩ (fun ra m3 hm3 => ?_)
      obtain ⟨hra, hf⟩ := hm3
      have hH := hH.k hf (by omega)
      have hD := hD.k hf (by omega)
      have hF4 := hF3.k hf (fun x h => by omega)
      have c13 : m3 q 13 = sg := (hf.1 _ _ (by omega)).trans c13
      have c14 : m3 q 14 = 0 := (hf.1 _ _ (by omega)).trans c14
      have c15 : m3 q 15 = -6 := (hf.1 _ _ (by omega)).trans c15
      have hra : (D * 4611686018427387904 ≤ (L.natAbs : Int) ∧ ra = -1) ∨ ((L.natAbs : Int) < D * 4611686018427387904 ∧ ra = (L.natAbs : Int) / D ∧ zsl m3 q 52 ((L.natAbs : Int) % D)) := hra
      have hra1 : -1 ≤ ra ∧ ra < 4611686018427387904 := by
        rcases hra with h | ⟨h, h', _⟩
        · omega
        · have := lq1 h; omega
      refine z_lstore X dX8_look_134 (fun y => [_, _, _, _, _, _, _, some (vl y), _, _, _, _, _]) (by decide) (fun _ => rfl) (fun a ha => ?_)
      refine z_aload_n X dX8_look_136 rfl ?_
      refine z_bipush X dX8_look_137 (by decide) ?_
      refine z_callVl X (As := [_]) dX8_look_139 m_X8_wholeOf i_X8_wholeOf l_X8_198 (c_X8_wholeOf (zg E) (s := 53) hA rfl (Or.inr rfl) (by omega) hD0 hH hD bD) (by first | assumption | exact zbigA.o (by assumption)) rfl rfl rfl (Nat.le_of_ble_eq_true rfl) ⟨Nat.le_of_ble_eq_true rfl, Nat.le_of_ble_eq_true rfl⟩ ⟨Nat.le_of_ble_eq_true rfl, Nat.le_of_ble_eq_true rfl⟩ ⟨rfl, rfl⟩ (fun rb m4 hm4 => ?_)
      obtain ⟨hrb, hf⟩ := hm4
      have hD := hD.k hf (by omega)
      have hF5 := hF4.k hf (fun x h => by omega)
      have c13 : m4 q 13 = sg := (hf.1 _ _ (by omega)).trans c13
      have c14 : m4 q 14 = 0 := (hf.1 _ _ (by omega)).trans c14
      have c15 : m4 q 15 = -6 := (hf.1 _ _ (by omega)).trans c15
      have hrb1 : -1 ≤ rb ∧ rb < 4611686018427387904 := by
        rcases hrb with h | ⟨h, h', _⟩
        · omega
        · have := hq1 h; omega
      refine z_lstore X dX8_look_142 (fun y => [_, _, _, _, _, _, _, _, _, some (vl y), _, _, _]) (by decide) (fun _ => rfl) (fun c hc => ?_)
      obtain rfl : a = ra := by omega
      obtain rfl : c = rb := by omega
      have no : (a ≠ c ∨ a = -1) → (D * 4611686018427387904 ≤ zhi L H ∨ zlo L H / D ≠ zhi L H / D) := by
        intro h
        rcases hra with ⟨u1, u2⟩ | ⟨u1, u2, _⟩ <;> rcases hrb with ⟨w1, w2⟩ | ⟨w1, w2, _⟩
        · exact Or.inl (by omega)
        · exact Or.inl (by omega)
        · exact Or.inl (by omega)
        · right
          rcases hrel with ⟨z1, z2⟩ | ⟨z1, z2⟩
          · rw [z1, z2]; omega
          · rw [z1, z2]; omega
      refine z_lload X dX8_look_144 rfl ?_
      refine z_lload X dX8_look_146 rfl ?_
      refine z_lcmp_ne X dX8_look_148 dX8_look_149 161 (by decide) (by omega) (by omega) (fun h148 => ?_) (fun h148 => ?_)
      · refine z_return (st := []) X rfl hQ dX8_look_161 ⟨rfl, rfl, ?_⟩
        exact ⟨ztold_now (s := 0) ⟨c13.trans hsg, Or.inl ⟨Or.inr (no (by omega)), c15, rfl, c14⟩⟩, hF5⟩
      · refine z_lload X dX8_look_152 rfl ?_
        refine z_ldc2 X dX8_look_154 q_X8_180 (-1) (by decide) ?_
        refine z_lcmp_ne X dX8_look_157 dX8_look_158 162 (by decide) (by omega) (by omega) (fun h157 => ?_) (fun h157 => ?_)
        · obtain ⟨u1, u2, h52⟩ : (L.natAbs : Int) < D * 4611686018427387904 ∧ a = (L.natAbs : Int) / D ∧ zsl m3 q 52 ((L.natAbs : Int) % D) := by
            rcases hra with h | h
            · omega
            · exact h
          obtain ⟨w1, w2, h53⟩ : (H.natAbs : Int) < D * 4611686018427387904 ∧ c = (H.natAbs : Int) / D ∧ zsl m4 q 53 ((H.natAbs : Int) % D) := by
            rcases hrb with h | h
            · omega
            · exact h
          have h52 := h52.k hf (by omega)
          refine z_aload_n X dX8_look_162 rfl ?_
          refine z_lload X dX8_look_163 rfl ?_
          refine z_putL X dX8_look_165 f_X8_188 rfl rfl (by assumption) ?_
          refine z_aload_n X dX8_look_168 rfl ?_
          refine z_iconst X dX8_look_169 ?_
          refine z_putI X dX8_look_170 f_X8_192 rfl rfl (by first | assumption | exact zbigA.o (by assumption)) ?_
          refine z_iconst X dX8_look_173 ?_
          refine z_istore X dX8_look_174 (fun y => [_, _, _, _, _, _, _, _, _, _, _, some (vi y), _]) (by decide) (fun _ => rfl) (fun x11_174 hx11_174 => ?_)
          subst hx11_174
          refine zl8_digits rfl X (q := q) (n := n) (N := N) (LL := (L.natAbs : Int)) (HH := (H.natAbs : Int)) (D := D) hA hn hb2 hD0 bD (fun m' s z1 z2 z3 z4 z5 x11 l12 => ?_) n 0 _ 1 none (by omega) (Or.inl rfl) (fun _ => ⟨by rw [Int.pow_zero, Int.mul_one]; exact (h52.w (by omega)).w (by omega), by rw [Int.pow_zero, Int.mul_one]; exact (h53.w (by omega)).w (by omega), (hD.w (by omega)).w (by omega)⟩) (by rw [zms_same]; rfl) (fun j hj => absurd hj (by omega)) (fun _ _ => rfl) zlkf.r
          refine z_return (st := []) X rfl hQ dX8_look_246 ⟨rfl, rfl, ?_⟩
          refine ⟨ztold_now (s := s) ⟨?_, Or.inr ⟨?_, ?_, ?_, ?_, z2, ?_, ?_⟩⟩, ((hF5.wq (by omega)).wq (by omega)).t z5⟩
          · rw [z4 13 (by omega), zms_nk _ _ _ _ _ (by omega), zms_nk _ _ _ _ _ (by omega), c13]; exact hsg
          · rw [z4 13 (by omega), zms_nk _ _ _ _ _ (by omega), zms_nk _ _ _ _ _ (by omega), c13]; exact hsg0
          · rcases hrel with ⟨g1, g2⟩ | ⟨g1, g2⟩ <;> rw [g2] <;> assumption
          · rcases hrel with ⟨g1, g2⟩ | ⟨g1, g2⟩ <;> rw [g1, g2] <;> omega
          · rw [z4 14 (by omega), zms_nk _ _ _ _ _ (by omega), zms_same]
            rcases hrel with ⟨g1, g2⟩ | ⟨g1, g2⟩ <;> rw [g1] <;> omega
          · rcases hrel with ⟨g1, g2⟩ | ⟨g1, g2⟩ <;> rw [g1, g2]
            · exact z1
            · exact zsame_sym z1
          · intro j hj
            rw [z3 j hj]
            rcases hrel with ⟨g1, g2⟩ | ⟨g1, g2⟩ <;> rw [g1]
            exact z1.2.1 j hj
        · refine z_return (st := []) X rfl hQ dX8_look_161 ⟨rfl, rfl, ?_⟩
          exact ⟨ztold_now (s := 0) ⟨c13.trans hsg, Or.inl ⟨Or.inr (no (by omega)), c15, rfl, c14⟩⟩, hF5⟩
    have tail : ∀ ab be : Int, ((ab = 1 ∧ 0 < L) ∨ (ab = 0 ∧ L ≤ 0)) → ((be = 1 ∧ H < 0) ∨ (be = 0 ∧ 0 ≤ H)) → zW E (0, 0) A m2 87 [some (vr q), some (vi (k : Int)), some (vi b), some (vi (n : Int)), some (vi (N : Int)), some (vi ab), some (vi be), none, none, none, none, none, none] [] := by
      intro ab be hab hbe
      refine z_iload X dX8_look_87 rfl ?_
      refine z_if_ne X dX8_look_89 98 (by decide) (by omega) (fun h89 => ?_) (fun h89 => ?_)
      · refine z_aload_n X dX8_look_98 rfl ?_
        refine z_iload X dX8_look_99 rfl ?_
        refine z_if_eq X dX8_look_101 108 (by decide) (by omega) (fun h101 => ?_) (fun h101 => ?_)
        · refine z_iconst X dX8_look_108 ?_
          first
          | (exfalso; omega)
          | (have s4 := s1 (by omega)
             exact tail2 _ ab be s4.1.symm (by omega) (Or.inl s4.2) (by omega))
          | (have s4 := s2 (by omega) (by omega)
             exact tail2 _ ab be s4.1.symm (by omega) (Or.inr s4.2) (by omega))
        · refine z_iconst X dX8_look_104 ?_
          refine z_goto X dX8_look_105 109 (by decide) ?_
          first
          | (exfalso; omega)
          | (have s4 := s1 (by omega)
             exact tail2 _ ab be s4.1.symm (by omega) (Or.inl s4.2) (by omega))
          | (have s4 := s2 (by omega) (by omega)
             exact tail2 _ ab be s4.1.symm (by omega) (Or.inr s4.2) (by omega))
      · refine z_iload X dX8_look_92 rfl ?_
        refine z_if_ne X dX8_look_94 98 (by decide) (by omega) (fun h94 => ?_) (fun h94 => ?_)
        · refine z_aload_n X dX8_look_98 rfl ?_
          refine z_iload X dX8_look_99 rfl ?_
          refine z_if_eq X dX8_look_101 108 (by decide) (by omega) (fun h101 => ?_) (fun h101 => ?_)
          · refine z_iconst X dX8_look_108 ?_
            first
            | (exfalso; omega)
            | (have s4 := s1 (by omega)
               exact tail2 _ ab be s4.1.symm (by omega) (Or.inl s4.2) (by omega))
            | (have s4 := s2 (by omega) (by omega)
               exact tail2 _ ab be s4.1.symm (by omega) (Or.inr s4.2) (by omega))
          · refine z_iconst X dX8_look_104 ?_
            refine z_goto X dX8_look_105 109 (by decide) ?_
            first
            | (exfalso; omega)
            | (have s4 := s1 (by omega)
               exact tail2 _ ab be s4.1.symm (by omega) (Or.inl s4.2) (by omega))
            | (have s4 := s2 (by omega) (by omega)
               exact tail2 _ ab be s4.1.symm (by omega) (Or.inr s4.2) (by omega))
        · refine z_return (st := []) X rfl hQ dX8_look_97 ⟨rfl, rfl, ?_⟩
          have s4 := s3 (by omega) (by omega)
          exact ⟨ztold_now (s := 0) ⟨c13.trans s4.symm, Or.inl ⟨Or.inl c13, c15, rfl, c14⟩⟩, hF2⟩
    refine z_aload_n X dX8_look_33 rfl ?_
    refine z_getR X dX8_look_34 f_X8_14 rfl (by first | assumption | exact zbigA.o (by assumption)) (by assumption) ?_
    refine z_bipush X dX8_look_37 (by decide) ?_
    refine z_iald X (52) dX8_look_39 (by omega) (by assumption) (by omega) (by omega) ?_
    refine z_if_le X dX8_look_40 57 (by decide) (by omega) (fun h40 => ?_) (fun h40 => ?_)
    · refine z_iconst X dX8_look_57 ?_
      refine z_istore X dX8_look_58 (fun y => [_, _, _, _, _, some (vi y), _, _, _, _, _, _, _]) (by decide) (fun _ => rfl) (fun ab hab => ?_)
      refine z_aload_n X dX8_look_60 rfl ?_
      refine z_getR X dX8_look_61 f_X8_14 rfl (by first | assumption | exact zbigA.o (by assumption)) (by assumption) ?_
      refine z_bipush X dX8_look_64 (by decide) ?_
      refine z_iald X (53) dX8_look_66 (by omega) (by assumption) (by omega) (by omega) ?_
      refine z_if_le X dX8_look_67 84 (by decide) (by omega) (fun h67 => ?_) (fun h67 => ?_)
      · refine z_iconst X dX8_look_84 ?_
        refine z_istore X dX8_look_85 (fun y => [_, _, _, _, _, _, some (vi y), _, _, _, _, _, _]) (by decide) (fun _ => rfl) (fun be hbe => ?_)
        exact tail ab be (by omega) (by omega)
      · refine z_aload_n X dX8_look_70 rfl ?_
        refine z_getR X dX8_look_71 f_X8_17 rfl (by first | assumption | exact zbigA.o (by assumption)) (by assumption) ?_
        refine z_bipush X dX8_look_74 (by decide) ?_
        refine z_bald X (53) dX8_look_76 (by omega) (by assumption) (by omega) (by omega) ?_
        refine z_if_eq X dX8_look_77 84 (by decide) (by omega) (fun h77 => ?_) (fun h77 => ?_)
        · refine z_iconst X dX8_look_84 ?_
          refine z_istore X dX8_look_85 (fun y => [_, _, _, _, _, _, some (vi y), _, _, _, _, _, _]) (by decide) (fun _ => rfl) (fun be hbe => ?_)
          exact tail ab be (by omega) (by omega)
        · refine z_iconst X dX8_look_80 ?_
          refine z_goto X dX8_look_81 85 (by decide) ?_
          refine z_istore X dX8_look_85 (fun y => [_, _, _, _, _, _, some (vi y), _, _, _, _, _, _]) (by decide) (fun _ => rfl) (fun be hbe => ?_)
          exact tail ab be (by omega) (by omega)
    · refine z_aload_n X dX8_look_43 rfl ?_
      refine z_getR X dX8_look_44 f_X8_17 rfl (by first | assumption | exact zbigA.o (by assumption)) (by assumption) ?_
      refine z_bipush X dX8_look_47 (by decide) ?_
      refine z_bald X (52) dX8_look_49 (by omega) (by assumption) (by omega) (by omega) ?_
      refine z_if_ne X dX8_look_50 57 (by decide) (by omega) (fun h50 => ?_) (fun h50 => ?_)
      · refine z_iconst X dX8_look_57 ?_
        refine z_istore X dX8_look_58 (fun y => [_, _, _, _, _, some (vi y), _, _, _, _, _, _, _]) (by decide) (fun _ => rfl) (fun ab hab => ?_)
        refine z_aload_n X dX8_look_60 rfl ?_
        refine z_getR X dX8_look_61 f_X8_14 rfl (by first | assumption | exact zbigA.o (by assumption)) (by assumption) ?_
        refine z_bipush X dX8_look_64 (by decide) ?_
        refine z_iald X (53) dX8_look_66 (by omega) (by assumption) (by omega) (by omega) ?_
        refine z_if_le X dX8_look_67 84 (by decide) (by omega) (fun h67 => ?_) (fun h67 => ?_)
        · refine z_iconst X dX8_look_84 ?_
          refine z_istore X dX8_look_85 (fun y => [_, _, _, _, _, _, some (vi y), _, _, _, _, _, _]) (by decide) (fun _ => rfl) (fun be hbe => ?_)
          exact tail ab be (by omega) (by omega)
        · refine z_aload_n X dX8_look_70 rfl ?_
          refine z_getR X dX8_look_71 f_X8_17 rfl (by first | assumption | exact zbigA.o (by assumption)) (by assumption) ?_
          refine z_bipush X dX8_look_74 (by decide) ?_
          refine z_bald X (53) dX8_look_76 (by omega) (by assumption) (by omega) (by omega) ?_
          refine z_if_eq X dX8_look_77 84 (by decide) (by omega) (fun h77 => ?_) (fun h77 => ?_)
          · refine z_iconst X dX8_look_84 ?_
            refine z_istore X dX8_look_85 (fun y => [_, _, _, _, _, _, some (vi y), _, _, _, _, _, _]) (by decide) (fun _ => rfl) (fun be hbe => ?_)
            exact tail ab be (by omega) (by omega)
          · refine z_iconst X dX8_look_80 ?_
            refine z_goto X dX8_look_81 85 (by decide) ?_
            refine z_istore X dX8_look_85 (fun y => [_, _, _, _, _, _, some (vi y), _, _, _, _, _, _]) (by decide) (fun _ => rfl) (fun be hbe => ?_)
            exact tail ab be (by omega) (by omega)
      · refine z_iconst X dX8_look_53 ?_
        refine z_goto X dX8_look_54 58 (by decide) ?_
        refine z_istore X dX8_look_58 (fun y => [_, _, _, _, _, some (vi y), _, _, _, _, _, _, _]) (by decide) (fun _ => rfl) (fun ab hab => ?_)
        refine z_aload_n X dX8_look_60 rfl ?_
        refine z_getR X dX8_look_61 f_X8_14 rfl (by first | assumption | exact zbigA.o (by assumption)) (by assumption) ?_
        refine z_bipush X dX8_look_64 (by decide) ?_
        refine z_iald X (53) dX8_look_66 (by omega) (by assumption) (by omega) (by omega) ?_
        refine z_if_le X dX8_look_67 84 (by decide) (by omega) (fun h67 => ?_) (fun h67 => ?_)
        · refine z_iconst X dX8_look_84 ?_
          refine z_istore X dX8_look_85 (fun y => [_, _, _, _, _, _, some (vi y), _, _, _, _, _, _]) (by decide) (fun _ => rfl) (fun be hbe => ?_)
          exact tail ab be (by omega) (by omega)
        · refine z_aload_n X dX8_look_70 rfl ?_
          refine z_getR X dX8_look_71 f_X8_17 rfl (by first | assumption | exact zbigA.o (by assumption)) (by assumption) ?_
          refine z_bipush X dX8_look_74 (by decide) ?_
          refine z_bald X (53) dX8_look_76 (by omega) (by assumption) (by omega) (by omega) ?_
          refine z_if_eq X dX8_look_77 84 (by decide) (by omega) (fun h77 => ?_) (fun h77 => ?_)
          · refine z_iconst X dX8_look_84 ?_
            refine z_istore X dX8_look_85 (fun y => [_, _, _, _, _, _, some (vi y), _, _, _, _, _, _]) (by decide) (fun _ => rfl) (fun be hbe => ?_)
            exact tail ab be (by omega) (by omega)
          · refine z_iconst X dX8_look_80 ?_
            refine z_goto X dX8_look_81 85 (by decide) ?_
            refine z_istore X dX8_look_85 (fun y => [_, _, _, _, _, _, some (vi y), _, _, _, _, _, _]) (by decide) (fun _ => rfl) (fun be hbe => ?_)
            exact tail ab be (by omega) (by omega)
  · refine z_return (st := []) X rfl hQ dX8_look_25 ⟨rfl, rfl, ?_⟩
    refine ⟨?_, hF0⟩
    have e0 : (sK σ k).1 = 0 := by omega
    unfold ztl
    rw [e0]
    exact ztold_now (s := 0) ⟨f13.trans rfl, Or.inl ⟨Or.inl f13, f15, rfl, f14⟩⟩

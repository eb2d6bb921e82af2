/-! ConstantMill: a part is enclosed -/
theorem zle.abs {x : Int} {a : Nat} (h : zle x a) : zle (x.natAbs : Int) a := by unfold zle at *; rw [Int.natAbs_natCast]; exact h
theorem zgo_nz {c : Nat → Nat → Int} {u v : Int} {st k : Nat} {z : zq4} (hq : z.2.1 ≠ 0) (hb : z.2.2.1 ≠ 0) : ∀ n, (∀ j, k ≤ j → j < k + n → ¬ zfalls c u v st j) → (zgo c k z n).2.1 ≠ 0 ∧ (zgo c k z n).2.2.1 ≠ 0
  | 0, _ => ⟨hq, hb⟩
  | n + 1, h => by
    obtain ⟨h1, h2⟩ := zgo_nz hq hb n (fun j g1 g2 => h j g1 (by omega))
    have h3 := h (k + n) (by omega) (by omega)
    have h4 : zpval c 1 (k + n) ≠ 0 := fun e => h3 (Or.inl e)
    have h5 : zpval c 3 (k + n) ≠ 0 := fun e => h3 (Or.inr (Or.inl e))
    exact ⟨Int.mul_ne_zero h1 h4, Int.mul_ne_zero h2 h5⟩
theorem zgo_nz0 {σ : zSt} {s N : Nat} (h : zfl σ s 0 0 N = -6) : (zgo (sC σ s) 0 zq0 N).2.1 ≠ 0 ∧ (zgo (sC σ s) 0 zq0 N).2.2.1 ≠ 0 := zgo_nz (by decide) (by decide) N (fun j g1 g2 => (zff_no N 0).mp h j g1 g2)
theorem zplh_ok {σ : zSt} {x : zPt} {N : Nat} (hb : zbnd (sU σ x.1) (sV σ x.1)) (hx : zptok x) (h : zfl σ x.1 0 0 N = -6) : 0 < (zplh σ x N).2.2 ∧ (zplh σ x N).1 ≤ (zplh σ x N).2.1 := by
  obtain ⟨h1, h2⟩ := zgo_nz0 h
  have h3 : (zgo (sC σ x.1) 0 zq0 N).2.1 * (zgo (sC σ x.1) 0 zq0 N).2.2.1 * x.2.2 * (sV σ x.1 - sU σ x.1) ≠ 0 := by
    refine Int.mul_ne_zero (Int.mul_ne_zero (Int.mul_ne_zero h1 h2) ?_) ?_
    · have := hx.2.2.1; omega
    · have := hb.2.1; omega
  unfold zplh
  dsimp only
  constructor
  · omega
  · omega
theorem zlh_ok {σ : zSt} {ps : Nat → zPt} {N : Nat} : ∀ n, (∀ j, j < n → zbnd (sU σ (ps j).1) (sV σ (ps j).1) ∧ zptok (ps j) ∧ zfl σ (ps j).1 0 0 N = -6) → 0 < (zlh σ ps N n).2.2 ∧ (zlh σ ps N n).1 ≤ (zlh σ ps N n).2.1
  | 0, _ => ⟨by unfold zlh; decide, by unfold zlh; decide⟩
  | n + 1, h => by
    obtain ⟨h1, h2⟩ := zlh_ok n (fun j hj => h j (by omega))
    obtain ⟨g1, g2, g3⟩ := h n (by omega)
    obtain ⟨g4, g5⟩ := zplh_ok g1 g2 g3
    unfold zlh
    dsimp only
    refine ⟨Int.mul_pos h1 g4, ?_⟩
    have e1 := Int.mul_le_mul_of_nonneg_right g5 (Int.le_of_lt h1)
    have e2 := Int.mul_le_mul_of_nonneg_right h2 (Int.le_of_lt g4)
    omega
/-- the sums alone -/
def zSR (b : Nat) (m : zM) (σ : zSt) : Prop := ∀ s, s < 6 → zsumM m (b + 37 + 4 * s) (sC σ s) (sU σ s) (sV σ s)
/-- between the arrays and the result -/
def zmid (b : Nat) (m m' : zM) : Prop := ∀ a j, (a < b + 4 ∨ b + 31 ≤ a) → m' a j = m a j
theorem zmid.k {b q : Nat} {m m1 m' : zM} (h : zmid b m m1) (hf : zfr m1 m' q) (hd : b + 4 ≤ q ∧ q + 1 < b + 31) : zmid b m m' := fun a j ha => (hf a j (by omega) (by omega)).trans (h a j ha)
theorem zmid.w {b a k : Nat} {m m1 : zM} {y : Int} (h : zmid b m m1) (hd : b + 4 ≤ a ∧ a < b + 31) : zmid b m (zms m1 a k y) := fun c j ha => (zms_nq _ _ _ _ _ (by omega)).trans (h c j ha)
theorem c_X7_enclosePart (G : zG) {A : zA} {m : zM} {b N k : Nat} {σ : zSt} {x : zPt} {s x1 x2 n : Int} {L H D : Int} (hA : zmilA A b) (hm : zSR b m σ) (ho : zStok σ) (hx : zptok x) (hs : s = (x.1 : Int)) (hx1 : x1 = x.2.1) (hx2 : x2 = x.2.2) (hn : n = (N : Int)) (hN : 1 ≤ N ∧ N ≤ 100) (hk : k ≤ 3) (hL : zbi m (b + 13 + 1) 660 L) (hH : zbi m (b + 13 + 3) 660 H) (hD : zbi m (b + 13 + 5) 660 D) (bL : zle L (4840 * k + 8 + k)) (bH : zle H (4840 * k + 8 + k)) (bD : zle D (4840 * k)) :
    zMet G k_X7_enclosePart [vr b, vi s, vi x1, vi x2, vi n] A m (zpv A (fun m' => (zbi m' (b + 13 + 1) 660 ((zplh σ x N).1 * D + L * (zplh σ x N).2.2) ∧ zle ((zplh σ x N).1 * D + L * (zplh σ x N).2.2) (4840 * (k + 1) + 8 + (k + 1))) ∧ (zbi m' (b + 13 + 3) 660 ((zplh σ x N).2.1 * D + H * (zplh σ x N).2.2) ∧ zle ((zplh σ x N).2.1 * D + H * (zplh σ x N).2.2) (4840 * (k + 1) + 8 + (k + 1))) ∧ (zbi m' (b + 13 + 5) 660 (D * (zplh σ x N).2.2) ∧ zle (D * (zplh σ x N).2.2) (4840 * (k + 1))) ∧ ∀ a j, (a < b + 4 ∨ b + 31 ≤ a) → m' a j = m a j)) := by
  obtain ⟨⟨hB, r0, r1, r2, r3, r4, r5, r6, r7, r8⟩, ⟨a1, a2, a3⟩, ⟨gG, gE, gP, gF, gT, gU⟩, hS, hDr, hC⟩ := id hA
  obtain ⟨gG1, ⟨gG2, gG3, gG4, gG5⟩, gb1, gb2, gb3, gb4⟩ := id gG
  obtain ⟨gP1, ⟨gP2, gP3, gP4, gP5⟩, pb1, pb2, pb3, pb4⟩ := id gP
  have gE1 := gE.1
  obtain ⟨t, y, z⟩ := x
  have hx1 : y = x1 := hx1.symm
  have hx2 : z = x2 := hx2.symm
  subst hs hn hx1 hx2
  obtain ⟨ht, hy, hz⟩ := id hx
  have ht : t < 6 := ht
  have hy : -1000000 ≤ y ∧ y ≤ 1000000 := hy
  have hz : 1 ≤ z ∧ z ≤ 1000000 := hz
  have hs1 := (hS t ht).2
  have hs2 := hs1.1
  have hsm := hm t ht
  obtain ⟨hco, hbd⟩ := ho.1 t ht
  obtain ⟨u1, u2, u3⟩ := hbd
  have eu : m (b + 37 + 4 * t) 3 = sU σ t := hsm.2.1
  have ev : m (b + 37 + 4 * t) 4 = sV σ t := hsm.2.2
  refine zMet.of RX7 rfl (by decide +kernel) (Nat.le_of_ble_eq_true rfl) [some (vr b), some (vi (t : Int)), some (vi y), some (vi z), some (vi (N : Int)), none, none, none, none, none] rfl (fun E hG X hQ hNm => ?_)
  subst hG
  refine z_aload_n X dX7_enclosePart_0 rfl ?_
  refine z_iload_n X dX7_enclosePart_1 rfl ?_
  refine z_callVr X (As := [_]) dX7_enclosePart_2 m_X7_sumAt i_X7_sumAt l_X7_61 (c_X7_sumAt (zg E) hA (by unfold zi32; omega)) (by first | assumption | exact zbigA.o (by assumption)) rfl rfl rfl (Nat.le_of_ble_eq_true rfl) ⟨Nat.le_of_ble_eq_true rfl, Nat.le_of_ble_eq_true rfl⟩ ⟨Nat.le_of_ble_eq_true rfl, Nat.le_of_ble_eq_true rfl⟩ ⟨rfl, rfl⟩ (fun f m1 hm1 => ?_)
  rcases f with _ | f
  · exact absurd hm1.2.no (by omega)
  · obtain ⟨rfl, hf⟩ := hm1
    obtain ⟨t', _, ht', rfl⟩ := hf.yes
    obtain rfl : t = t' := by omega
    refine z_astore X dX7_enclosePart_5 [_, _, _, _, _, _, _, _, _, _] (by decide) rfl ?_
    refine z_aload X dX7_enclosePart_7 rfl ?_
    refine z_ifnonnull X dX7_enclosePart_9 13 (by decide) ?_
    refine z_aload_n X dX7_enclosePart_13 rfl ?_
    refine z_getR X dX7_enclosePart_14 f_X7_42 rfl (by first | assumption | exact zbigA.o (by assumption)) (by assumption) ?_
    refine z_iload_n X dX7_enclosePart_17 rfl ?_
    refine z_iconst X dX7_enclosePart_18 ?_
    refine z_callVv X (As := [_, _]) dX7_enclosePart_19 m_X5_open i_X5_open l_X7_102 (c_X5_open (zg E) gP) (by first | assumption | exact zbigA.o (by assumption)) rfl rfl rfl (Nat.le_of_ble_eq_true rfl) ⟨Nat.le_of_ble_eq_true rfl, Nat.le_of_ble_eq_true rfl⟩ ⟨Nat.le_of_ble_eq_true rfl, Nat.le_of_ble_eq_true rfl⟩ ⟨rfl, rfl⟩ (fun m1 hm2 => ?_)
    obtain ⟨p1, ⟨p2, p3, p4, p5⟩, p6⟩ := hm2
    have hsm := hsm.e (m' := m1) (fun a j _ _ => p6 a j (by omega))
    refine z_aload_n X dX7_enclosePart_22 rfl ?_
    refine z_getR X dX7_enclosePart_23 f_X7_30 rfl (by first | assumption | exact zbigA.o (by assumption)) (by assumption) ?_
    refine z_aload_n X dX7_enclosePart_26 rfl ?_
    refine z_getR X dX7_enclosePart_27 f_X7_42 rfl (by first | assumption | exact zbigA.o (by assumption)) (by assumption) ?_
    refine z_aload X dX7_enclosePart_30 rfl ?_
    refine z_iload X dX7_enclosePart_32 rfl ?_
    refine z_callVv X (As := [_, _, _]) dX7_enclosePart_34 m_X4_goOn i_X4_goOn l_X7_106 (c_X4_goOn (zg E) (n0 := 0) (k0 := 0) (e := N) rfl gP gG hs1 hco (by omega) (by omega) (by omega) zok_0 (by omega) (by omega) (by omega) p1 hsm p5) (by first | assumption | exact zbigA.o (by assumption)) rfl rfl rfl (Nat.le_of_ble_eq_true rfl) ⟨Nat.le_of_ble_eq_true rfl, Nat.le_of_ble_eq_true rfl⟩ ⟨Nat.le_of_ble_eq_true rfl, Nat.le_of_ble_eq_true rfl⟩ ⟨rfl, rfl⟩ (fun m2 hm3 => ?_)
    obtain ⟨⟨q1, q2, q3, q4⟩, -, -, q5, q6⟩ := hm3
    have q6 := q6 (by omega)
    simp only [Nat.sub_zero] at q1 q2 q3 q4 q6
    have hok := zok_go hco zok_0 (k := 0) (d := N) (by omega)
    have hok1 := zok_go hco zok_0 (k := 0) (d := N - 1) (by omega)
    rw [Nat.zero_add] at hok hok1
    have pa0 := zle_pval hco (w := 0) (k := N - 1) (by omega) (by omega)
    have pa2 := zle_pval hco (w := 2) (k := N - 1) (by omega) (by omega)
    have ba : zle (zadd (sC σ t) (N - 1) (zgo (sC σ t) 0 zq0 (N - 1))) (24 * (N - 1) + 24 * (N - 1) + 24 + 24) := ((hok1.1.mul hok1.2.2.1).mul pa0).mul pa2
    have bu : zle (sU σ t) 20 := zle_mil (by omega)
    have bv : zle (sV σ t - sU σ t) 20 := zle_mil (by omega)
    have bt := hok.t (by omega)
    have t1 := bt.mul (zle_mil hy)
    have t2 := t1.mul bv
    have aa1 := ba.mul (zle_mil hy)
    have aa2 := aa1.mul bu
    have w0 := hok.2.1.mul hok.2.2.1
    have w1 := w0.mul (zle_mil (x := z) (by omega))
    have w2 := w1.mul bv
    have hsm := hsm.e (m' := m2) (fun a j _ _ => q5 a j (by omega) (by omega))
    have hF : zmid b m m2 := fun a j ha => (q5 a j (by omega) (by omega)).trans (p6 a j (by omega))
    have hL := hL.e (m' := m2) (fun j => (q5 _ j (by omega) (by omega)).trans (p6 _ j (by omega))) (fun j => (q5 _ j (by omega) (by omega)).trans (p6 _ j (by omega)))
    have hH := hH.e (m' := m2) (fun j => (q5 _ j (by omega) (by omega)).trans (p6 _ j (by omega))) (fun j => (q5 _ j (by omega) (by omega)).trans (p6 _ j (by omega)))
    have hD := hD.e (m' := m2) (fun j => (q5 _ j (by omega) (by omega)).trans (p6 _ j (by omega))) (fun j => (q5 _ j (by omega) (by omega)).trans (p6 _ j (by omega)))
    refine z_aload_n X dX7_enclosePart_37 rfl ?_
    refine z_getR X dX7_enclosePart_38 f_X7_42 rfl (by first | assumption | exact zbigA.o (by assumption)) (by assumption) ?_
    refine z_getR X dX7_enclosePart_41 f_X7_250 rfl (by first | assumption | exact zbigA.o (by assumption)) (by assumption) ?_
    refine z_astore X dX7_enclosePart_44 [_, _, _, _, _, _, _, _, _, _] (by decide) rfl ?_
    refine z_aload X dX7_enclosePart_46 rfl ?_
    refine z_iload_n X dX7_enclosePart_48 rfl ?_
    refine z_callVv X (As := [_]) dX7_enclosePart_49 m_X0_times i_X0_times l_X7_254 (c_X0_times (zg E) pb4 q4 (by omega) (t1.lt (by omega))) (by first | assumption | exact zbigA.o (by assumption)) rfl rfl rfl (Nat.le_of_ble_eq_true rfl) ⟨Nat.le_of_ble_eq_true rfl, Nat.le_of_ble_eq_true rfl⟩ ⟨Nat.le_of_ble_eq_true rfl, Nat.le_of_ble_eq_true rfl⟩ ⟨rfl, rfl⟩ (fun m3 hm => ?_)
    obtain ⟨q4, hf⟩ := hm
    have hsm := hsm.k hf (by omega)
    have q2 := q2.k hf (by omega)
    have q3 := q3.k hf (by omega)
    have q6 := q6.k hf (by omega)
    have hL := hL.k hf (by omega)
    have hH := hH.k hf (by omega)
    have hD := hD.k hf (by omega)
    have hF := hF.k hf (by omega)
    refine z_aload X dX7_enclosePart_52 rfl ?_
    refine z_aload X dX7_enclosePart_54 rfl ?_
    refine z_getI X dX7_enclosePart_56 f_X7_85 rfl (by first | assumption | exact zbigA.o (by assumption)) ?_
    refine z_aload X dX7_enclosePart_59 rfl ?_
    refine z_getI X dX7_enclosePart_61 f_X7_81 rfl (by first | assumption | exact zbigA.o (by assumption)) ?_
    rw [hsm.2.2, hsm.2.1]
    refine z_isub X dX7_enclosePart_64 ?_
    refine z_callVv X (As := [_]) dX7_enclosePart_65 m_X0_times i_X0_times l_X7_254 (c_X0_times (zg E) pb4 q4 (by omega) (t2.lt (by omega))) (by first | assumption | exact zbigA.o (by assumption)) rfl rfl rfl (Nat.le_of_ble_eq_true rfl) ⟨Nat.le_of_ble_eq_true rfl, Nat.le_of_ble_eq_true rfl⟩ ⟨Nat.le_of_ble_eq_true rfl, Nat.le_of_ble_eq_true rfl⟩ ⟨rfl, rfl⟩ (fun m4 hm => ?_)
    obtain ⟨q4, hf⟩ := hm
    have hsm := hsm.k hf (by omega)
    have q2 := q2.k hf (by omega)
    have q3 := q3.k hf (by omega)
    have q6 := q6.k hf (by omega)
    have hL := hL.k hf (by omega)
    have hH := hH.k hf (by omega)
    have hD := hD.k hf (by omega)
    have hF := hF.k hf (by omega)
    refine z_aload_n X dX7_enclosePart_68 rfl ?_
    refine z_getR X dX7_enclosePart_69 f_X7_30 rfl (by first | assumption | exact zbigA.o (by assumption)) (by assumption) ?_
    refine z_getR X dX7_enclosePart_72 f_X7_258 rfl (by first | assumption | exact zbigA.o (by assumption)) (by assumption) ?_
    refine z_astore X dX7_enclosePart_75 [_, _, _, _, _, _, _, _, _, _] (by decide) rfl ?_
    refine z_aload X dX7_enclosePart_77 rfl ?_
    refine z_iload_n X dX7_enclosePart_79 rfl ?_
    refine z_callVv X (As := [_]) dX7_enclosePart_80 m_X0_times i_X0_times l_X7_254 (c_X0_times (zg E) gb2 q6 (by omega) (aa1.lt (by omega))) (by first | assumption | exact zbigA.o (by assumption)) rfl rfl rfl (Nat.le_of_ble_eq_true rfl) ⟨Nat.le_of_ble_eq_true rfl, Nat.le_of_ble_eq_true rfl⟩ ⟨Nat.le_of_ble_eq_true rfl, Nat.le_of_ble_eq_true rfl⟩ ⟨rfl, rfl⟩ (fun m5 hm => ?_)
    obtain ⟨q6, hf⟩ := hm
    have hsm := hsm.k hf (by omega)
    have q2 := q2.k hf (by omega)
    have q3 := q3.k hf (by omega)
    have q4 := q4.k hf (by omega)
    have hL := hL.k hf (by omega)
    have hH := hH.k hf (by omega)
    have hD := hD.k hf (by omega)
    have hF := hF.k hf (by omega)
    refine z_aload X dX7_enclosePart_83 rfl ?_
    refine z_aload X dX7_enclosePart_85 rfl ?_
    refine z_getI X dX7_enclosePart_87 f_X7_81 rfl (by first | assumption | exact zbigA.o (by assumption)) ?_
    rw [hsm.2.1]
    refine z_callVv X (As := [_]) dX7_enclosePart_90 m_X0_times i_X0_times l_X7_254 (c_X0_times (zg E) gb2 q6 (by omega) (aa2.lt (by omega))) (by first | assumption | exact zbigA.o (by assumption)) rfl rfl rfl (Nat.le_of_ble_eq_true rfl) ⟨Nat.le_of_ble_eq_true rfl, Nat.le_of_ble_eq_true rfl⟩ ⟨Nat.le_of_ble_eq_true rfl, Nat.le_of_ble_eq_true rfl⟩ ⟨rfl, rfl⟩ (fun m6 hm => ?_)
    obtain ⟨q6, hf⟩ := hm
    have hsm := hsm.k hf (by omega)
    have q2 := q2.k hf (by omega)
    have q3 := q3.k hf (by omega)
    have q4 := q4.k hf (by omega)
    have hL := hL.k hf (by omega)
    have hH := hH.k hf (by omega)
    have hD := hD.k hf (by omega)
    have hF := hF.k hf (by omega)
    refine z_aload X dX7_enclosePart_93 rfl ?_
    refine z_iconst X dX7_enclosePart_95 ?_
    refine z_putZ X dX7_enclosePart_96 f_X7_147 (by first | exact Or.inl rfl | exact Or.inr rfl | omega) rfl rfl (by first | assumption | exact zbigA.o (by assumption)) ?_
    have q6 := q6.abs0
    have hsm := hsm.w (a := b + 4 + 3) (k := 2) (y := 0) (by omega)
    have q2 := q2.w (a := b + 4 + 3) (k := 2) (y := 0) (by omega)
    have q3 := q3.w (a := b + 4 + 3) (k := 2) (y := 0) (by omega)
    have q4 := q4.w (a := b + 4 + 3) (k := 2) (y := 0) (by omega)
    have hL := hL.w (a := b + 4 + 3) (k := 2) (y := 0) (by omega)
    have hH := hH.w (a := b + 4 + 3) (k := 2) (y := 0) (by omega)
    have hD := hD.w (a := b + 4 + 3) (k := 2) (y := 0) (by omega)
    have hF := hF.w (a := b + 4 + 3) (k := 2) (y := 0) (by omega)
    refine z_aload_n X dX7_enclosePart_99 rfl ?_
    refine z_getR X dX7_enclosePart_100 f_X7_30 rfl (by first | assumption | exact zbigA.o (by assumption)) (by assumption) ?_
    refine z_getR X dX7_enclosePart_103 f_X7_261 rfl (by first | assumption | exact zbigA.o (by assumption)) (by assumption) ?_
    refine z_astore X dX7_enclosePart_106 [_, _, _, _, _, _, _, _, _, _] (by decide) rfl ?_
    refine z_aload X dX7_enclosePart_108 rfl ?_
    refine z_aload_n X dX7_enclosePart_110 rfl ?_
    refine z_getR X dX7_enclosePart_111 f_X7_42 rfl (by first | assumption | exact zbigA.o (by assumption)) (by assumption) ?_
    refine z_getR X dX7_enclosePart_114 f_X7_264 rfl (by first | assumption | exact zbigA.o (by assumption)) (by assumption) ?_
    refine z_aload_n X dX7_enclosePart_117 rfl ?_
    refine z_getR X dX7_enclosePart_118 f_X7_42 rfl (by first | assumption | exact zbigA.o (by assumption)) (by assumption) ?_
    refine z_getR X dX7_enclosePart_121 f_X7_267 rfl (by first | assumption | exact zbigA.o (by assumption)) (by assumption) ?_
    refine z_callVv X (As := [_, _]) dX7_enclosePart_124 m_X0_product i_X0_product l_X7_270 (c_X0_product (zg E) gb3 pb2 pb3 (by omega) (by omega) q2 q3 q2.lt q3.lt (by omega)) (by first | assumption | exact zbigA.o (by assumption)) rfl rfl rfl (Nat.le_of_ble_eq_true rfl) ⟨Nat.le_of_ble_eq_true rfl, Nat.le_of_ble_eq_true rfl⟩ ⟨Nat.le_of_ble_eq_true rfl, Nat.le_of_ble_eq_true rfl⟩ ⟨rfl, rfl⟩ (fun m7 hm => ?_)
    obtain ⟨hu, hf⟩ := hm
    have hsm := hsm.k hf (by omega)
    have q4 := q4.k hf (by omega)
    have q6 := q6.k hf (by omega)
    have hL := hL.k hf (by omega)
    have hH := hH.k hf (by omega)
    have hD := hD.k hf (by omega)
    have hF := hF.k hf (by omega)
    refine z_aload X dX7_enclosePart_127 rfl ?_
    refine z_iload_n X dX7_enclosePart_129 rfl ?_
    refine z_callVv X (As := [_]) dX7_enclosePart_130 m_X0_times i_X0_times l_X7_254 (c_X0_times (zg E) gb3 hu (by omega) (w1.lt (by omega))) (by first | assumption | exact zbigA.o (by assumption)) rfl rfl rfl (Nat.le_of_ble_eq_true rfl) ⟨Nat.le_of_ble_eq_true rfl, Nat.le_of_ble_eq_true rfl⟩ ⟨Nat.le_of_ble_eq_true rfl, Nat.le_of_ble_eq_true rfl⟩ ⟨rfl, rfl⟩ (fun m8 hm => ?_)
    obtain ⟨hu, hf⟩ := hm
    have hsm := hsm.k hf (by omega)
    have q4 := q4.k hf (by omega)
    have q6 := q6.k hf (by omega)
    have hL := hL.k hf (by omega)
    have hH := hH.k hf (by omega)
    have hD := hD.k hf (by omega)
    have hF := hF.k hf (by omega)
    refine z_aload X dX7_enclosePart_133 rfl ?_
    refine z_aload X dX7_enclosePart_135 rfl ?_
    refine z_getI X dX7_enclosePart_137 f_X7_85 rfl (by first | assumption | exact zbigA.o (by assumption)) ?_
    refine z_aload X dX7_enclosePart_140 rfl ?_
    refine z_getI X dX7_enclosePart_142 f_X7_81 rfl (by first | assumption | exact zbigA.o (by assumption)) ?_
    rw [hsm.2.2, hsm.2.1]
    refine z_isub X dX7_enclosePart_145 ?_
    refine z_callVv X (As := [_]) dX7_enclosePart_146 m_X0_times i_X0_times l_X7_254 (c_X0_times (zg E) gb3 hu (by omega) (w2.lt (by omega))) (by first | assumption | exact zbigA.o (by assumption)) rfl rfl rfl (Nat.le_of_ble_eq_true rfl) ⟨Nat.le_of_ble_eq_true rfl, Nat.le_of_ble_eq_true rfl⟩ ⟨Nat.le_of_ble_eq_true rfl, Nat.le_of_ble_eq_true rfl⟩ ⟨rfl, rfl⟩ (fun m9 hm => ?_)
    obtain ⟨hu, hf⟩ := hm
    have q4 := q4.k hf (by omega)
    have q6 := q6.k hf (by omega)
    have hL := hL.k hf (by omega)
    have hH := hH.k hf (by omega)
    have hD := hD.k hf (by omega)
    have hF := hF.k hf (by omega)
    obtain ⟨X', hX'⟩ : ∃ X', X' = (zgo (sC σ t) 0 zq0 N).2.2.2 * y * (sV σ t - sU σ t) := ⟨_, rfl⟩
    obtain ⟨W, hW⟩ : ∃ W, W = (zgo (sC σ t) 0 zq0 N).2.1 * (zgo (sC σ t) 0 zq0 N).2.2.1 * z * (sV σ t - sU σ t) := ⟨_, rfl⟩
    obtain ⟨K, hK⟩ : ∃ K : Int, K = ((zadd (sC σ t) (N - 1) (zgo (sC σ t) 0 zq0 (N - 1)) * y * sU σ t).natAbs : Int) := ⟨_, rfl⟩
    obtain ⟨Y, hY⟩ : ∃ Y, Y = if W < 0 then -X' else X' := ⟨_, rfl⟩
    have hpl : zplh σ (t, y, z) N = (Y + -K, Y + K, (W.natAbs : Int)) := by rw [hY, hX', hW, hK]; rfl
    have bX : zle X' 4847 := by rw [hX']; exact t2.mono (by omega)
    have bY : zle Y 4847 := by rw [hY]; split; exact bX.neg; exact bX
    have bK : zle K 4847 := by rw [hK]; exact aa2.abs.mono (by omega)
    have bW : zle (W.natAbs : Int) 4840 := by rw [hW]; exact w2.abs.mono (by omega)
    have bYK := bY.add bK
    have bYN := bY.add bK.neg
    rw [← hX'] at q4
    rw [← hK] at q6
    rw [← hW] at hu
    obtain ⟨nn, s1, s2, s3, s4⟩ := hu.sz
    refine z_aload X dX7_enclosePart_149 rfl ?_
    refine z_getI X dX7_enclosePart_151 f_X7_147 rfl (by first | assumption | exact zbigA.o (by assumption)) ?_
    refine z_if_eq X dX7_enclosePart_154 168 (by decide) (by omega) (fun h154 => ?_) (fun h154 => ?_)
    · rw [show X' = Y by rw [hY, if_neg (by omega)]] at q4
      rw [show W = (W.natAbs : Int) by omega] at hu
      refine z_aload_n X dX7_enclosePart_168 rfl ?_
      refine z_getR X dX7_enclosePart_169 f_X7_30 rfl (by first | assumption | exact zbigA.o (by assumption)) (by assumption) ?_
      refine z_getR X dX7_enclosePart_172 f_X7_277 rfl (by first | assumption | exact zbigA.o (by assumption)) (by assumption) ?_
      refine z_astore X dX7_enclosePart_175 [_, _, _, _, _, _, _, _, _, _] (by decide) rfl ?_
      refine z_aload X dX7_enclosePart_177 rfl ?_
      refine z_aload X dX7_enclosePart_179 rfl ?_
      refine z_callVv X (As := [_]) dX7_enclosePart_181 m_X0_copy i_X0_copy l_X7_280 (c_X0_copy (zg E) gb4 pb4 (by omega) q4 (bY.lt (by omega))) (by first | assumption | exact zbigA.o (by assumption)) rfl rfl rfl (Nat.le_of_ble_eq_true rfl) ⟨Nat.le_of_ble_eq_true rfl, Nat.le_of_ble_eq_true rfl⟩ ⟨Nat.le_of_ble_eq_true rfl, Nat.le_of_ble_eq_true rfl⟩ ⟨rfl, rfl⟩ (fun m11 hm => ?_)
      obtain ⟨hh, hf⟩ := hm
      have q4 := q4.k hf (by omega)
      have q6 := q6.k hf (by omega)
      have hu := hu.k hf (by omega)
      have hL := hL.k hf (by omega)
      have hH := hH.k hf (by omega)
      have hD := hD.k hf (by omega)
      have hF := hF.k hf (by omega)
      refine z_aload X dX7_enclosePart_184 rfl ?_
      refine z_aload X dX7_enclosePart_186 rfl ?_
      refine z_callVv X (As := [_]) dX7_enclosePart_188 m_X0_plus i_X0_plus l_X7_284 (c_X0_plus (zg E) gb4 gb2 (by omega) hh q6 (bK.lt (by omega)) (bYK.lt (by omega))) (by first | assumption | exact zbigA.o (by assumption)) rfl rfl rfl (Nat.le_of_ble_eq_true rfl) ⟨Nat.le_of_ble_eq_true rfl, Nat.le_of_ble_eq_true rfl⟩ ⟨Nat.le_of_ble_eq_true rfl, Nat.le_of_ble_eq_true rfl⟩ ⟨rfl, rfl⟩ (fun m12 hm => ?_)
      obtain ⟨hh, hf⟩ := hm
      have q4 := q4.k hf (by omega)
      have q6 := q6.k hf (by omega)
      have hu := hu.k hf (by omega)
      have hL := hL.k hf (by omega)
      have hH := hH.k hf (by omega)
      have hD := hD.k hf (by omega)
      have hF := hF.k hf (by omega)
      refine z_aload X dX7_enclosePart_191 rfl ?_
      refine z_callVv X (As := []) dX7_enclosePart_193 m_X0_negate i_X0_negate l_X7_274 (c_X0_negate (zg E) gb2 q6) (by first | assumption | exact zbigA.o (by assumption)) rfl rfl rfl (Nat.le_of_ble_eq_true rfl) ⟨Nat.le_of_ble_eq_true rfl, Nat.le_of_ble_eq_true rfl⟩ ⟨Nat.le_of_ble_eq_true rfl, Nat.le_of_ble_eq_true rfl⟩ ⟨rfl, rfl⟩ (fun m13 hm => ?_)
      obtain ⟨q6, hf⟩ := hm
      have q4 := q4.k hf (by omega)
      have hh := hh.k hf (by omega)
      have hu := hu.k hf (by omega)
      have hL := hL.k hf (by omega)
      have hH := hH.k hf (by omega)
      have hD := hD.k hf (by omega)
      have hF := hF.k hf (by omega)
      refine z_aload X dX7_enclosePart_196 rfl ?_
      refine z_aload X dX7_enclosePart_198 rfl ?_
      refine z_callVv X (As := [_]) dX7_enclosePart_200 m_X0_plus i_X0_plus l_X7_284 (c_X0_plus (zg E) pb4 gb2 (by omega) q4 q6 (bK.neg.lt (by omega)) (bYN.lt (by omega))) (by first | assumption | exact zbigA.o (by assumption)) rfl rfl rfl (Nat.le_of_ble_eq_true rfl) ⟨Nat.le_of_ble_eq_true rfl, Nat.le_of_ble_eq_true rfl⟩ ⟨Nat.le_of_ble_eq_true rfl, Nat.le_of_ble_eq_true rfl⟩ ⟨rfl, rfl⟩ (fun m14 hm => ?_)
      obtain ⟨q4, hf⟩ := hm
      have hh := hh.k hf (by omega)
      have hu := hu.k hf (by omega)
      have hL := hL.k hf (by omega)
      have hH := hH.k hf (by omega)
      have hD := hD.k hf (by omega)
      have hF := hF.k hf (by omega)
      refine z_aload_n X dX7_enclosePart_203 rfl ?_
      refine z_getR X dX7_enclosePart_204 f_X7_37 rfl (by first | assumption | exact zbigA.o (by assumption)) (by assumption) ?_
      refine z_aload X dX7_enclosePart_207 rfl ?_
      refine z_aload X dX7_enclosePart_209 rfl ?_
      refine z_aload X dX7_enclosePart_211 rfl ?_
      refine z_callVv X (As := [_, _, _]) dX7_enclosePart_213 m_X2_add i_X2_add l_X7_287 (c_X2_add (zg E) gE pb4 gb4 gb3 (by omega) (by omega) (by omega) hk hL hH hD q4 hh hu bL bH bD (bYN.mono (by omega)) (bYK.mono (by omega)) bW) (by first | assumption | exact zbigA.o (by assumption)) rfl rfl rfl (Nat.le_of_ble_eq_true rfl) ⟨Nat.le_of_ble_eq_true rfl, Nat.le_of_ble_eq_true rfl⟩ ⟨Nat.le_of_ble_eq_true rfl, Nat.le_of_ble_eq_true rfl⟩ ⟨rfl, rfl⟩ (fun m15 hm => ?_)
      refine z_return (st := []) X rfl hQ dX7_enclosePart_216 ⟨rfl, rfl, ?_⟩
      obtain ⟨r1, r2, r3, hf⟩ := hm
      rw [hpl]
      exact ⟨r1, r2, r3, fun a j h => (hf a j (by omega) (by omega)).trans (hF a j h)⟩
    · refine z_aload X dX7_enclosePart_157 rfl ?_
      refine z_iconst X dX7_enclosePart_159 ?_
      refine z_putZ X dX7_enclosePart_160 f_X7_147 (by first | exact Or.inl rfl | exact Or.inr rfl | omega) rfl rfl (by first | assumption | exact zbigA.o (by assumption)) ?_
      have hu := hu.abs0
      have q4 := q4.w (a := b + 4 + 5) (k := 2) (y := 0) (by omega)
      have q6 := q6.w (a := b + 4 + 5) (k := 2) (y := 0) (by omega)
      have hL := hL.w (a := b + 4 + 5) (k := 2) (y := 0) (by omega)
      have hH := hH.w (a := b + 4 + 5) (k := 2) (y := 0) (by omega)
      have hD := hD.w (a := b + 4 + 5) (k := 2) (y := 0) (by omega)
      have hF := hF.w (a := b + 4 + 5) (k := 2) (y := 0) (by omega)
      refine z_aload X dX7_enclosePart_163 rfl ?_
      refine z_callVv X (As := []) dX7_enclosePart_165 m_X0_negate i_X0_negate l_X7_274 (c_X0_negate (zg E) pb4 q4) (by first | assumption | exact zbigA.o (by assumption)) rfl rfl rfl (Nat.le_of_ble_eq_true rfl) ⟨Nat.le_of_ble_eq_true rfl, Nat.le_of_ble_eq_true rfl⟩ ⟨Nat.le_of_ble_eq_true rfl, Nat.le_of_ble_eq_true rfl⟩ ⟨rfl, rfl⟩ (fun m10 hm => ?_)
      obtain ⟨q4, hf⟩ := hm
      have q6 := q6.k hf (by omega)
      have hu := hu.k hf (by omega)
      have hL := hL.k hf (by omega)
      have hH := hH.k hf (by omega)
      have hD := hD.k hf (by omega)
      have hF := hF.k hf (by omega)
      rw [show -X' = Y by rw [hY, if_pos (by omega)]] at q4
      refine z_aload_n X dX7_enclosePart_168 rfl ?_
      refine z_getR X dX7_enclosePart_169 f_X7_30 rfl (by first | assumption | exact zbigA.o (by assumption)) (by assumption) ?_
      refine z_getR X dX7_enclosePart_172 f_X7_277 rfl (by first | assumption | exact zbigA.o (by assumption)) (by assumption) ?_
      refine z_astore X dX7_enclosePart_175 [_, _, _, _, _, _, _, _, _, _] (by decide) rfl ?_
      refine z_aload X dX7_enclosePart_177 rfl ?_
      refine z_aload X dX7_enclosePart_179 rfl ?_
      refine z_callVv X (As := [_]) dX7_enclosePart_181 m_X0_copy i_X0_copy l_X7_280 (c_X0_copy (zg E) gb4 pb4 (by omega) q4 (bY.lt (by omega))) (by first | assumption | exact zbigA.o (by assumption)) rfl rfl rfl (Nat.le_of_ble_eq_true rfl) ⟨Nat.le_of_ble_eq_true rfl, Nat.le_of_ble_eq_true rfl⟩ ⟨Nat.le_of_ble_eq_true rfl, Nat.le_of_ble_eq_true rfl⟩ ⟨rfl, rfl⟩ (fun m11 hm => ?_)
      obtain ⟨hh, hf⟩ := hm
      have q4 := q4.k hf (by omega)
      have q6 := q6.k hf (by omega)
      have hu := hu.k hf (by omega)
      have hL := hL.k hf (by omega)
      have hH := hH.k hf (by omega)
      have hD := hD.k hf (by omega)
      have hF := hF.k hf (by omega)
      refine z_aload X dX7_enclosePart_184 rfl ?_
      refine z_aload X dX7_enclosePart_186 rfl ?_
      refine z_callVv X (As := [_]) dX7_enclosePart_188 m_X0_plus i_X0_plus l_X7_284 (c_X0_plus (zg E) gb4 gb2 (by omega) hh q6 (bK.lt (by omega)) (bYK.lt (by omega))) (by first | assumption | exact zbigA.o (by assumption)) rfl rfl rfl (Nat.le_of_ble_eq_true rfl) ⟨Nat.le_of_ble_eq_true rfl, Nat.le_of_ble_eq_true rfl⟩ ⟨Nat.le_of_ble_eq_true rfl, Nat.le_of_ble_eq_true rfl⟩ ⟨rfl, rfl⟩ (fun m12 hm => ?_)
      obtain ⟨hh, hf⟩ := hm
      have q4 := q4.k hf (by omega)
      have q6 := q6.k hf (by omega)
      have hu := hu.k hf (by omega)
      have hL := hL.k hf (by omega)
      have hH := hH.k hf (by omega)
      have hD := hD.k hf (by omega)
      have hF := hF.k hf (by omega)
      refine z_aload X dX7_enclosePart_191 rfl ?_
      refine z_callVv X (As := []) dX7_enclosePart_193 m_X0_negate i_X0_negate l_X7_274 (c_X0_negate (zg E) gb2 q6) (by first | assumption | exact zbigA.o (by assumption)) rfl rfl rfl (Nat.le_of_ble_eq_true rfl) ⟨Nat.le_of_ble_eq_true rfl, Nat.le_of_ble_eq_true rfl⟩ ⟨Nat.le_of_ble_eq_true rfl, Nat.le_of_ble_eq_true rfl⟩ ⟨rfl, rfl⟩ (fun m13 hm => ?_)
      obtain ⟨q6, hf⟩ := hm
      have q4 := q4.k hf (by omega)
      have hh := hh.k hf (by omega)
      have hu := hu.k hf (by omega)
      have hL := hL.k hf (by omega)
      have hH := hH.k hf (by omega)
      have hD := hD.k hf (by omega)
      have hF := hF.k hf (by omega)
      refine z_aload X dX7_enclosePart_196 rfl ?_
      refine z_aload X dX7_enclosePart_198 rfl ?_
      refine z_callVv X (As := [_]) dX7_enclosePart_200 m_X0_plus i_X0_plus l_X7_284 (c_X0_plus (zg E) pb4 gb2 (by omega) q4 q6 (bK.neg.lt (by omega)) (bYN.lt (by omega))) (by first | assumption | exact zbigA.o (by assumption)) rfl rfl rfl (Nat.le_of_ble_eq_true rfl) ⟨Nat.le_of_ble_eq_true rfl, Nat.le_of_ble_eq_true rfl⟩ ⟨Nat.le_of_ble_eq_true rfl, Nat.le_of_ble_eq_true rfl⟩ ⟨rfl, rfl⟩ (fun m14 hm => ?_)
      obtain ⟨q4, hf⟩ := hm
      have hh := hh.k hf (by omega)
      have hu := hu.k hf (by omega)
      have hL := hL.k hf (by omega)
      have hH := hH.k hf (by omega)
      have hD := hD.k hf (by omega)
      have hF := hF.k hf (by omega)
      refine z_aload_n X dX7_enclosePart_203 rfl ?_
      refine z_getR X dX7_enclosePart_204 f_X7_37 rfl (by first | assumption | exact zbigA.o (by assumption)) (by assumption) ?_
      refine z_aload X dX7_enclosePart_207 rfl ?_
      refine z_aload X dX7_enclosePart_209 rfl ?_
      refine z_aload X dX7_enclosePart_211 rfl ?_
      refine z_callVv X (As := [_, _, _]) dX7_enclosePart_213 m_X2_add i_X2_add l_X7_287 (c_X2_add (zg E) gE pb4 gb4 gb3 (by omega) (by omega) (by omega) hk hL hH hD q4 hh hu bL bH bD (bYN.mono (by omega)) (bYK.mono (by omega)) bW) (by first | assumption | exact zbigA.o (by assumption)) rfl rfl rfl (Nat.le_of_ble_eq_true rfl) ⟨Nat.le_of_ble_eq_true rfl, Nat.le_of_ble_eq_true rfl⟩ ⟨Nat.le_of_ble_eq_true rfl, Nat.le_of_ble_eq_true rfl⟩ ⟨rfl, rfl⟩ (fun m15 hm => ?_)
      refine z_return (st := []) X rfl hQ dX7_enclosePart_216 ⟨rfl, rfl, ?_⟩
      obtain ⟨r1, r2, r3, hf⟩ := hm
      rw [hpl]
      exact ⟨r1, r2, r3, fun a j h => (hf a j (by omega) (by omega)).trans (hF a j h)⟩

/-! ConstantMill: a part is enclosed -/
theorem zle.abs {x : Int} {a : Nat} (h : zle x a) : zle (x.natAbs : Int) a := by unfold zle at *; rw [Int.natAbs_natCast]; exact h
theorem zgo_nz {c : Nat → Nat → Int} {u v : Int} {st k : Nat} {z : zq4} (hq : z.2.1 ≠ 0) (hb : z.2.2.1 ≠ 0) : ∀ n, (∀ j, k ≤ j → j < k + n → ¬ zfalls c u v st j) → (zgo c k z n).2.1 ≠ 0 ∧ (zgo c k z n).2.2.1 ≠ 0
  | 0, _ => ⟨hq, hb⟩
  | n + 1, h => by
    obtain ⟨h1, h2⟩ := zgo_nz hq hb n (fun j g1 g2 => h j g1 (by omega))
    have h3 := h (k + n) (by omega) (by omega)
    have h4 : zpval c 1 (k + n) ≠ 0 := fun e => h3 (Or.inl e)
    have h5 : zpval c 3 (k + n) ≠ 0 := fun e => h3 (Or.inr (Or.inl e))
    exact ⟨Int.mul_ne_zero h1 h4, Int.mul_ne_zero h2 h5⟩
theorem zgo_nz0 {σ : zSt} {s N : Nat} (h : zfl σ s 0 0 N = -6) : (zgo (sC σ s) 0 zq0 N).2.1 ≠ 0 ∧ (zgo (sC σ s) 0 zq0 N).2.2.1 ≠ 0 := zgo_nz (by decide) (by decide) N (fun j g1 g2 => (zff_no N 0).mp h j g1 g2)
theorem zplh_ok {σ : zSt} {x : zPt} {N : Nat} (hb : zbnd (sU σ x.1) (sV σ x.1)) (hx : zptok x) (h : zfl σ x.1 0 0 N = -6) : 0 < (zplh σ x N).2.2 ∧ (zplh σ x N).1 ≤ (zplh σ x N).2.1 := by
  obtain ⟨h1, h2⟩ := zgo_nz0 h
  have h3 : (zgo (sC σ x.1) 0 zq0 N).2.1 * (zgo (sC σ x.1) 0 zq0 N).2.2.1 * x.2.2 * (sV σ x.1 - sU σ x.1) ≠ 0 := by
    refine Int.mul_ne_zero (Int.mul_ne_zero (Int.mul_ne_zero h1 h2) ?_) ?_
    · have := hx.2.2.1; omega
    · have := hb.2.1; omega
  unfold zplh
  dsimp only
  constructor
  · omega
  · omega
theorem zlh_ok {σ : zSt} {ps : Nat → zPt} {N : Nat} : ∀ n, (∀ j, j < n → zbnd (sU σ (ps j).1) (sV σ (ps j).1) ∧ zptok (ps j) ∧ zfl σ (ps j).1 0 0 N = -6) → 0 < (zlh σ ps N n).2.2 ∧ (zlh σ ps N n).1 ≤ (zlh σ ps N n).2.1
  | 0, _ => ⟨by unfold zlh; decide, by unfold zlh; decide⟩
  | n + 1, h => by
    obtain ⟨h1, h2⟩ := zlh_ok n (fun j hj => h j (by omega))
    obtain ⟨g1, g2, g3⟩ := h n (by omega)
    obtain ⟨g4, g5⟩ := zplh_ok g1 g2 g3
    unfold zlh
    dsimp only
    refine ⟨Int.mul_pos h1 g4, ?_⟩
    have e1 := Int.mul_le_mul_of_nonneg_right g5 (Int.le_of_lt h1)
    have e2 := Int.mul_le_mul_of_nonneg_right h2 (Int.le_of_lt g4)
    omega
theorem c_X7_enclosePart (G : zG) {A : zA} {m : zM} {b N k : Nat} {σ : zSt} {x : zPt} {s x1 x2 n : Int} {L H D : Int} (hA : zmilA A b) (hm : zCR b m σ) (ho : zStok σ) (hx : zptok x) (hs : s = (x.1 : Int)) (hx1 : x1 = x.2.1) (hx2 : x2 = x.2.2) (hn : n = (N : Int)) (hN : 1 ≤ N ∧ N ≤ 100) (hk : k ≤ 3) (hL : zbi m (b + 13 + 1) 660 L) (hH : zbi m (b + 13 + 3) 660 H) (hD : zbi m (b + 13 + 5) 660 D) (bL : zle L (4840 * k + 8 + k)) (bH : zle H (4840 * k + 8 + k)) (bD : zle D (4840 * k)) :
    zMet G k_X7_enclosePart [vr b, vi s, vi x1, vi x2, vi n] A m (zpv A (fun m' => (zbi m' (b + 13 + 1) 660 ((zplh σ x N).1 * D + L * (zplh σ x N).2.2) ∧ zle ((zplh σ x N).1 * D + L * (zplh σ x N).2.2) (4840 * (k + 1) + 8 + (k + 1))) ∧ (zbi m' (b + 13 + 3) 660 ((zplh σ x N).2.1 * D + H * (zplh σ x N).2.2) ∧ zle ((zplh σ x N).2.1 * D + H * (zplh σ x N).2.2) (4840 * (k + 1) + 8 + (k + 1))) ∧ (zbi m' (b + 13 + 5) 660 (D * (zplh σ x N).2.2) ∧ zle (D * (zplh σ x N).2.2) (4840 * (k + 1))) ∧ ∀ a j, (a < b + 4 ∨ b + 31 ≤ a) → m' a j = m a j)) := by
  obtain ⟨⟨hB, r0, r1, r2, r3, r4, r5, r6, r7, r8⟩, ⟨a1, a2, a3⟩, ⟨gG, gE, gP, gF, gT, gU⟩, hS, hDr, hC⟩ := id hA
  obtain ⟨gG1, ⟨gG2, gG3, gG4, gG5⟩, gb1, gb2, gb3, gb4⟩ := id gG
  obtain ⟨gP1, ⟨gP2, gP3, gP4, gP5⟩, pb1, pb2, pb3, pb4⟩ := id gP
  have gE1 := gE.1
  obtain ⟨t, y, z⟩ := x
  subst hs hx1 hx2 hn
  obtain ⟨ht, hy, hz⟩ := id hx
  have ht : t < 6 := ht
  have hy : -1000000 ≤ y ∧ y ≤ 1000000 := hy
  have hz : 1 ≤ z ∧ z ≤ 1000000 := hz
  have hs1 := (hS t ht).2
  have hs2 := hs1.1
  have hsm := hm.1 t ht
  obtain ⟨hco, hbd⟩ := ho.1 t ht
  obtain ⟨u1, u2, u3⟩ := hbd
  have eu : m (b + 37 + 4 * t) 3 = sU σ t := hsm.2.1
  have ev : m (b + 37 + 4 * t) 4 = sV σ t := hsm.2.2
  refine zMet.of RX7 rfl (by decide +kernel) (Nat.le_of_ble_eq_true rfl) [some (vr b), some (vi (t : Int)), some (vi y), some (vi z), some (vi (N : Int)), none, none, none, none, none] rfl (fun E hG X hQ hNm => ?_)
  subst hG
  refine z_aload_n X dX7_enclosePart_0 rfl ?_
  refine z_iload_n X dX7_enclosePart_1 rfl ?_
  refine z_callVr X (As := [_]) dX7_enclosePart_2 m_X7_sumAt i_X7_sumAt l_X7_61 (c_X7_sumAt (zg E) hA (by unfold zi32; omega)) (by first | assumption | exact zbigA.o (by assumption)) rfl rfl rfl (Nat.le_of_ble_eq_true rfl) ⟨Nat.le_of_ble_eq_true rfl, Nat.le_of_ble_eq_true rfl⟩ ⟨Nat.le_of_ble_eq_true rfl, Nat.le_of_ble_eq_true rfl⟩ ⟨rfl, rfl⟩ (fun f m1 hm1 => ?_)
  rcases f with _ | f
  · exact absurd hm1.2.no (by omega)
  · obtain ⟨rfl, hf⟩ := hm1
    obtain ⟨t', _, ht', rfl⟩ := hf.yes
    obtain rfl : t' = t := by omega
    refine z_astore X dX7_enclosePart_5 [_, _, _, _, _, _, _, _, _, _] (by decide) rfl ?_
    refine z_aload X dX7_enclosePart_7 rfl ?_
    refine z_ifnonnull X dX7_enclosePart_9 13 (by decide) ?_
    refine z_aload_n X dX7_enclosePart_13 rfl ?_
    refine z_getR X dX7_enclosePart_14 f_X7_42 rfl (by first | assumption | exact zbigA.o (by assumption)) (by assumption) ?_
    refine z_iload_n X dX7_enclosePart_17 rfl ?_
    refine z_iconst X dX7_enclosePart_18 ?_
    refine z_callVv X (As := [_, _]) dX7_enclosePart_19 m_X5_open i_X5_open l_X7_102 (c_X5_open (zg E) gP) (by first | assumption | exact zbigA.o (by assumption)) rfl rfl rfl (Nat.le_of_ble_eq_true rfl) ⟨Nat.le_of_ble_eq_true rfl, Nat.le_of_ble_eq_true rfl⟩ ⟨Nat.le_of_ble_eq_true rfl, Nat.le_of_ble_eq_true rfl⟩ ⟨rfl, rfl⟩ (fun m1 hm2 => ?_)
    obtain ⟨p1, ⟨p2, p3, p4, p5⟩, p6⟩ := hm2
    have hsm := hsm.e (m' := m1) (fun a j _ _ => p6 a j (by omega))
    refine z_aload_n X dX7_enclosePart_22 rfl ?_
    refine z_getR X dX7_enclosePart_23 f_X7_30 rfl (by first | assumption | exact zbigA.o (by assumption)) (by assumption) ?_
    refine z_aload_n X dX7_enclosePart_26 rfl ?_
    refine z_getR X dX7_enclosePart_27 f_X7_42 rfl (by first | assumption | exact zbigA.o (by assumption)) (by assumption) ?_
    refine z_aload X dX7_enclosePart_30 rfl ?_
    refine z_iload X dX7_enclosePart_32 rfl ?_
    refine z_callVv X (As := [_, _, _]) dX7_enclosePart_34 m_X4_goOn i_X4_goOn l_X7_106 (c_X4_goOn (zg E) (n0 := 0) (k0 := 0) (e := N) rfl gP gG hs1 hco (by omega) (by omega) (by omega) zok_0 (by omega) (by omega) (by omega) p1 hsm p5) (by first | assumption | exact zbigA.o (by assumption)) rfl rfl rfl (Nat.le_of_ble_eq_true rfl) ⟨Nat.le_of_ble_eq_true rfl, Nat.le_of_ble_eq_true rfl⟩ ⟨Nat.le_of_ble_eq_true rfl, Nat.le_of_ble_eq_true rfl⟩ ⟨rfl, rfl⟩ (fun m2 hm3 => ?_)
    obtain ⟨⟨q1, q2, q3, q4⟩, -, -, q5, q6⟩ := hm3
    have q6 := q6 (by omega)
    refine z_aload_n X dX7_enclosePart_37 rfl ?_
    refine z_getR X dX7_enclosePart_38 f_X7_42 rfl (by first | assumption | exact zbigA.o (by assumption)) (by assumption) ?_
    refine z_getR X dX7_enclosePart_41 f_X7_250 rfl (by first | assumption | exact zbigA.o (by assumption)) (by assumption) ?_
    refine z_astore X dX7_enclosePart_44 [_, _, _, _, _, _, _, _, _, _] (by decide) rfl ?_
    refine z_aload X dX7_enclosePart_46 rfl ?_
    refine z_iload_n X dX7_enclosePart_48 rfl ?_
    -- call X0_times at 49
    sorry

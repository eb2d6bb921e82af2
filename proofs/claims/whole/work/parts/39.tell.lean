/-! ConstantMill: tell, figures -/
theorem zdg_bd {l D b : Int} (hb : 2 ≤ b ∧ b ≤ 36) (k : Nat) : 0 ≤ zfg l D b k ∧ zfg l D b k < 36 := by
  have := zfg_bd (l := l) (w := D) hb.1 k
  omega
theorem ztold_rd {m : zM} {f s n : Nat} {L H D b : Int} (hb : 2 ≤ b ∧ b ≤ 36) (hn : n ≤ 100) (h : ztold L H D b n (m f 5) (m f 6) s (m f 7) (m (f + 1))) : zrvM m f (zrd L H D b n) := by
  obtain ⟨h1, h⟩ := h
  unfold zrd
  rcases h with ⟨g1, g2, g3, g4⟩ | ⟨g1, g2, g3, g4, g5, g6, g7⟩
  · rw [if_pos (by rw [← h1]; exact g1)]
    exact ⟨⟨g2, Or.inl ⟨rfl, rfl⟩, fun j hj => absurd hj (Nat.not_lt_zero j)⟩, h1, g4⟩
  · rw [if_neg (by rw [← h1]; intro h; rcases h with h | h | h <;> omega)]
    have e := zsame_unique g6 (zscf_same (da := zfg (zlo L H) D b) (db := zfg (zhi L H) D b) n 0 (fun i hi => absurd hi (Nat.not_lt_zero i)) |> fun h => by rw [Nat.zero_add] at h; exact h)
    subst e
    exact ⟨⟨g5, Or.inr ⟨rfl, Nat.le_trans g6.1 hn⟩, fun j hj => ⟨g7 j hj, zdg_bd hb j⟩⟩, h1, g4⟩
theorem zsgn_bd (L H : Int) : -1 ≤ zsgn L H ∧ zsgn L H ≤ 1 := by
  unfold zsgn
  split
  · omega
  · split <;> omega
theorem zrd_ok {L H D b : Int} {n : Nat} (hD : 0 < D) (hLH : L ≤ H) (hb : 2 ≤ b ∧ b ≤ 36) (hn : n ≤ 100) : zrvok (zrd L H D b n) := by
  unfold zrd
  split
  · exact ⟨zsgn_bd L H, Or.inl ⟨rfl, rfl⟩, by dsimp only; omega, fun j hj => absurd hj (Nat.not_lt_zero j)⟩
  · rename_i h
    have h1 : zsgn L H ≠ 0 := fun e => h (Or.inl e)
    have h2 : zhi L H < D * 4611686018427387904 := by
      rcases Int.lt_or_le (zhi L H) (D * 4611686018427387904) with g | g
      · exact g
      · exact absurd (Or.inr (Or.inl g)) h
    have h3 : 0 ≤ zlo L H ∧ zlo L H ≤ zhi L H := by
      unfold zsgn at h1
      unfold zlo zhi
      by_cases g : 0 < L
      · rw [if_pos g, if_pos g]; omega
      · rw [if_neg g] at h1
        rw [if_neg g, if_neg g]
        by_cases g2 : H < 0
        · omega
        · rw [if_neg g2] at h1; exact absurd rfl h1
    have h4 := (zscf_same (da := zfg (zlo L H) D b) (db := zfg (zhi L H) D b) n 0 (fun i hi => absurd hi (Nat.not_lt_zero i))).1
    rw [Nat.zero_add] at h4
    refine ⟨zsgn_bd L H, Or.inr ⟨rfl, Nat.le_trans h4 hn⟩, ⟨Int.ediv_nonneg h3.1 (by omega), ?_⟩, fun j _ => zdg_bd hb j⟩
    exact Int.ediv_lt_of_lt_mul hD (by rw [Int.mul_comm]; omega)
theorem ztl_ok {σ : zSt} {k N n : Nat} {b : Int} (ho : zStok σ) (hk : k < 4) (hfz : zfc σ k N = -6) (hb : 2 ≤ b ∧ b ≤ 36) (hn : n ≤ 100) : (0 < (zlh σ (sK σ k).2 N (sK σ k).1).2.2 ∧ (zlh σ (sK σ k).2 N (sK σ k).1).1 ≤ (zlh σ (sK σ k).2 N (sK σ k).1).2.1) ∧ zrvok (ztl σ k b n N) := by
  have h := zlh_ok (σ := σ) (ps := (sK σ k).2) (N := N) (sK σ k).1 (fun j hj => by
    have hp := (ho.2.2.1 k hk).2 j hj
    exact ⟨(ho.1 _ hp.1).2, hp, (zfp_no _ 0).mp hfz j (Nat.zero_le j) (by omega)⟩)
  exact ⟨h, zrd_ok h.1 h.2 hb hn⟩
theorem zl_tell {E : zCx} (X : zOK E cX7_tell RX7 7 none k_X7_tell.2.2.2.2) {A : zA} {b k N f : Nat} {bs ni : Int} {m0 : zM} {σ : zSt} (hA : zmilA A b) (ho : zStok σ) (hk : k < 4) (hN : 1 ≤ N ∧ N ≤ 100) (hsr : zSR b m0 σ) (hco : zcoM m0 (b + 133 + 4 * k) (sK σ k))
    (K : ∀ m', zbi m' (b + 13 + 1) 660 (zlh σ (sK σ k).2 N (sK σ k).1).1 → zbi m' (b + 13 + 3) 660 (zlh σ (sK σ k).2 N (sK σ k).1).2.1 → zbi m' (b + 13 + 5) 660 (zlh σ (sK σ k).2 N (sK σ k).1).2.2 → zle (zlh σ (sK σ k).2 N (sK σ k).1).1 19372 → zle (zlh σ (sK σ k).2 N (sK σ k).1).2.1 19372 → zle (zlh σ (sK σ k).2 N (sK σ k).1).2.2 19360 → zmid b m0 m' → zW E (0, 0) A m' 77 [some (vr b), some (vr (b + 133 + 4 * k)), some (vi bs), some (vi ni), some (vi (N : Int)), some (vr f), some (vi ((sK σ k).1 : Int))] []) : ∀ (r i : Nat) (m : zM), i + r = (sK σ k).1 → zbi m (b + 13 + 1) 660 (zlh σ (sK σ k).2 N i).1 → zbi m (b + 13 + 3) 660 (zlh σ (sK σ k).2 N i).2.1 → zbi m (b + 13 + 5) 660 (zlh σ (sK σ k).2 N i).2.2 → zle (zlh σ (sK σ k).2 N i).1 (4840 * i + 8 + i) → zle (zlh σ (sK σ k).2 N i).2.1 (4840 * i + 8 + i) → zle (zlh σ (sK σ k).2 N i).2.2 (4840 * i) → zmid b m0 m → zW E (0, 0) A m 29 [some (vr b), some (vr (b + 133 + 4 * k)), some (vi bs), some (vi ni), some (vi (N : Int)), some (vr f), some (vi (i : Int))] [] := by
  obtain ⟨⟨hB, r0, r1, r2, r3, r4, r5, r6, r7, r8⟩, ⟨a1, a2, a3⟩, ⟨gG, gE, gP, gF, gT, gU⟩, hS, hDr, hC⟩ := id hA
  have hc1 := (hC k hk).2
  have hc2 := hc1.1
  obtain ⟨⟨c1, c2, c3⟩, c4, c5, c6⟩ := hc1.2
  have hk4 := (ho.2.2.1 k hk).1
  intro r
  induction r with
  | zero =>
    intro i m hi hL hH hD bL bH bD hF
    obtain rfl : i = (sK σ k).1 := by omega
    have e3 := (hF (b + 133 + 4 * k) 3 (by omega)).trans hco.1
    refine z_iload X dX7_tell_29 rfl ?_
    refine z_aload_n X dX7_tell_31 rfl ?_
    refine z_getI X dX7_tell_32 f_X7_169 rfl (by first | assumption | exact zbigA.o (by assumption)) ?_
    refine z_icmp_ge X dX7_tell_35 77 (by decide) (by omega) (by omega) (fun h35 => ?_) (fun h35 => ?_)
    · exact K m hL hH hD (bL.mono (by omega)) (bH.mono (by omega)) (bD.mono (by omega)) hF
    · exact absurd h35 (by omega)
  | succ r ih =>
    intro i m hi hL hH hD bL bH bD hF
    have e3 := (hF (b + 133 + 4 * k) 3 (by omega)).trans hco.1
    have hpt := (ho.2.2.1 k hk).2 i (by omega)
    obtain ⟨v1, v2, v3⟩ := hco.2 i (by omega)
    have hsm : zSR b m σ := fun s hs => (hsr s hs).e (fun a j _ _ => hF a j (by omega))
    refine z_iload X dX7_tell_29 rfl ?_
    refine z_aload_n X dX7_tell_31 rfl ?_
    refine z_getI X dX7_tell_32 f_X7_169 rfl (by first | assumption | exact zbigA.o (by assumption)) ?_
    refine z_icmp_ge X dX7_tell_35 77 (by decide) (by omega) (by omega) (fun h35 => ?_) (fun h35 => ?_)
    · omega
    · refine z_iload X dX7_tell_38 rfl ?_
      refine z_iconst X dX7_tell_40 ?_
      refine z_icmp_ge X dX7_tell_41 77 (by decide) (by omega) (by omega) (fun h41 => ?_) (fun h41 => ?_)
      · omega
      · refine z_aload_n X dX7_tell_44 rfl ?_
        refine z_aload_n X dX7_tell_45 rfl ?_
        refine z_getR X dX7_tell_46 f_X7_172 rfl (by first | assumption | exact zbigA.o (by assumption)) (by assumption) ?_
        refine z_iload X dX7_tell_49 rfl ?_
        refine z_iald X (i) dX7_tell_51 (by omega) (by assumption) (by omega) (by omega) ?_
        refine z_aload_n X dX7_tell_52 rfl ?_
        refine z_getR X dX7_tell_53 f_X7_176 rfl (by first | assumption | exact zbigA.o (by assumption)) (by assumption) ?_
        refine z_iload X dX7_tell_56 rfl ?_
        refine z_iald X (i) dX7_tell_58 (by omega) (by assumption) (by omega) (by omega) ?_
        refine z_aload_n X dX7_tell_59 rfl ?_
        refine z_getR X dX7_tell_60 f_X7_179 rfl (by first | assumption | exact zbigA.o (by assumption)) (by assumption) ?_
        refine z_iload X dX7_tell_63 rfl ?_
        refine z_iald X (i) dX7_tell_65 (by omega) (by assumption) (by omega) (by omega) ?_
        refine z_iload X dX7_tell_66 rfl ?_
        refine z_callVv X (As := [_, _, _, _]) dX7_tell_68 m_X7_enclosePart i_X7_enclosePart l_X7_243 (c_X7_enclosePart (zg E) hA hsm ho hpt ((hF _ _ (by omega)).trans v1) ((hF _ _ (by omega)).trans v2) ((hF _ _ (by omega)).trans v3) rfl hN (by omega) hL hH hD bL bH bD) (by first | assumption | exact zbigA.o (by assumption)) rfl rfl rfl (Nat.le_of_ble_eq_true rfl) ⟨Nat.le_of_ble_eq_true rfl, Nat.le_of_ble_eq_true rfl⟩ ⟨Nat.le_of_ble_eq_true rfl, Nat.le_of_ble_eq_true rfl⟩ ⟨rfl, rfl⟩ (fun m1 hm => ?_)
        obtain ⟨⟨hL1, bL1⟩, ⟨hH1, bH1⟩, ⟨hD1, bD1⟩, hF1⟩ := hm
        refine z_iinc X dX7_tell_71 rfl (fun y => [_, _, _, _, _, _, some (vi y)]) (fun _ => rfl) (fun x hx => ?_)
        obtain rfl : x = ((i + 1 : Nat) : Int) := by omega
        refine z_goto X dX7_tell_74 29 (by decide) ?_
        exact ih (i + 1) m1 (by omega) hL1 hH1 hD1 bL1 bH1 bD1 (fun a j ha => (hF1 a j ha).trans (hF a j ha))
theorem c_X7_tell (G : zG) {A : zA} {m : zM} {b k N n f : Nat} {σ : zSt} {bs ni Ni : Int} (hA : zmilA A b) (ho : zStok σ) (hk : k < 4) (hni : ni = (n : Int)) (hNi : Ni = (N : Int)) (hN : 1 ≤ N ∧ N ≤ 100) (hn : n ≤ 100) (hb : 2 ≤ bs ∧ bs ≤ 36) (hf : f = b + 31 ∨ f = b + 33 ∨ f = b + 35) (hsr : zSR b m σ) (hco : zcoM m (b + 133 + 4 * k) (sK σ k)) (hfz : zfc σ k N = -6) :
    zMet G k_X7_tell [vr b, vr (b + 133 + 4 * k), vi bs, vi ni, vi Ni, vr f] A m (zpv A (fun m' => zrvM m' f (ztl σ k bs n N) ∧ (m' f 1 = m f 1 ∧ m' f 2 = bs ∧ m' f 3 = (n : Int) ∧ m' f 4 = (N : Int)) ∧ ∀ a j, (a < b + 4 ∨ b + 31 ≤ a) → a ≠ f → a ≠ f + 1 → m' a j = m a j)) := by
  subst hni hNi
  obtain ⟨⟨hB, r0, r1, r2, r3, r4, r5, r6, r7, r8⟩, ⟨a1, a2, a3⟩, ⟨gG, gE, gP, gF, gT, gU⟩, hS, hDr, hC⟩ := id hA
  have gE1 := gE.1
  have gf : zfigA A f := by rcases hf with rfl | rfl | rfl <;> assumption
  have gf1 := gf.1
  obtain ⟨⟨hD0, hLH⟩, -⟩ := ztl_ok ho hk hfz hb hn
  refine zMet.of RX7 rfl (by decide +kernel) (Nat.le_of_ble_eq_true rfl) [some (vr b), some (vr (b + 133 + 4 * k)), some (vi bs), some (vi (n : Int)), some (vi (N : Int)), some (vr f), none] rfl (fun E hG X hQ hNm => ?_)
  subst hG
  refine z_aload X dX7_tell_0 rfl ?_
  refine z_iload_n X dX7_tell_2 rfl ?_
  refine z_putI X dX7_tell_3 f_X7_225 rfl rfl (by first | assumption | exact zbigA.o (by assumption)) ?_
  refine z_aload X dX7_tell_6 rfl ?_
  refine z_iload_n X dX7_tell_8 rfl ?_
  refine z_putI X dX7_tell_9 f_X7_228 rfl rfl (by first | assumption | exact zbigA.o (by assumption)) ?_
  refine z_aload X dX7_tell_12 rfl ?_
  refine z_iload X dX7_tell_14 rfl ?_
  refine z_putI X dX7_tell_16 f_X7_231 rfl rfl (by first | assumption | exact zbigA.o (by assumption)) ?_
  refine z_aload_n X dX7_tell_19 rfl ?_
  refine z_getR X dX7_tell_20 f_X7_37 rfl (by first | assumption | exact zbigA.o (by assumption)) (by assumption) ?_
  refine z_callVv X (As := []) dX7_tell_23 m_X2_open i_X2_open l_X7_241 (c_X2_open (zg E) gE) (by first | assumption | exact zbigA.o (by assumption)) rfl rfl rfl (Nat.le_of_ble_eq_true rfl) ⟨Nat.le_of_ble_eq_true rfl, Nat.le_of_ble_eq_true rfl⟩ ⟨Nat.le_of_ble_eq_true rfl, Nat.le_of_ble_eq_true rfl⟩ ⟨rfl, rfl⟩ (fun m1 hm => ?_)
  obtain ⟨hL, hH, hD, hF⟩ := hm
  refine z_iconst X dX7_tell_26 ?_
  refine z_istore X dX7_tell_27 (fun y => [_, _, _, _, _, _, some (vi y)]) (by decide) (fun _ => rfl) (fun x6_27 hx6_27 => ?_)
  subst hx6_27
  refine zl_tell (N := N) (k := k) (m0 := m1) X hA ho hk hN (fun s hs => (hsr s hs).e (fun a j _ _ => (hF a j (by omega) (by omega)).trans (by rw [zms_nq _ _ _ _ _ (by omega), zms_nq _ _ _ _ _ (by omega), zms_nq _ _ _ _ _ (by omega)]))) (hco.e (fun a j _ _ => (hF a j (by omega) (by omega)).trans (by rw [zms_nq _ _ _ _ _ (by omega), zms_nq _ _ _ _ _ (by omega), zms_nq _ _ _ _ _ (by omega)]))) (fun m2 hL2 hH2 hD2 bL bH bD hF2 => ?_) (sK σ k).1 0 m1 (by omega) hL hH hD (by unfold zle zlh; decide) (by unfold zle zlh; decide) (by unfold zle zlh; decide) (fun _ _ _ => rfl)
  have kf : ∀ j, m2 f j = zms (zms (zms m f 2 bs) f 3 (n : Int)) f 4 (N : Int) f j := fun j => (hF2 f j (by omega)).trans (hF f j (by omega) (by omega))
  refine z_aload_n X dX7_tell_77 rfl ?_
  refine z_getR X dX7_tell_78 f_X7_37 rfl (by first | assumption | exact zbigA.o (by assumption)) (by assumption) ?_
  refine z_aload X dX7_tell_81 rfl ?_
  refine z_callVv X (As := [_]) dX7_tell_83 m_X2_read i_X2_read l_X7_246 (c_X2_read (zg E) gE gf (by omega) hL2 hH2 hD2 bL bH bD hD0 hLH hb hn (by rw [kf]; simp [zms]) (by rw [kf]; simp [zms])) (by first | assumption | exact zbigA.o (by assumption)) rfl rfl rfl (Nat.le_of_ble_eq_true rfl) ⟨Nat.le_of_ble_eq_true rfl, Nat.le_of_ble_eq_true rfl⟩ ⟨Nat.le_of_ble_eq_true rfl, Nat.le_of_ble_eq_true rfl⟩ ⟨rfl, rfl⟩ (fun m3 hm => ?_)
  refine z_return (st := []) X rfl hQ dX7_tell_86 ⟨rfl, rfl, ?_⟩
  obtain ⟨⟨s, ht⟩, hF3⟩ := hm
  have k1 : ∀ j, j ≠ 5 → j ≠ 6 → j ≠ 7 → m3 f j = m2 f j := fun j h1 h2 h3 => by have := hF3 f j (by omega); omega
  refine ⟨ztold_rd hb hn ht, ⟨?_, ?_, ?_, ?_⟩, fun a j h1 h2 h3 => ?_⟩
  · rw [k1 _ (by omega) (by omega) (by omega), kf]; simp [zms]
  · rw [k1 _ (by omega) (by omega) (by omega), kf]; simp [zms]
  · rw [k1 _ (by omega) (by omega) (by omega), kf]; simp [zms]
  · rw [k1 _ (by omega) (by omega) (by omega), kf]; simp [zms]
  · have g1 : m3 a j = m2 a j := by have := hF3 a j (by omega); omega
    rw [g1, hF2 a j (by omega), hF a j (by omega) (by omega), zms_nq _ _ _ _ _ (by omega), zms_nq _ _ _ _ _ (by omega), zms_nq _ _ _ _ _ (by omega)]
theorem zCR.re {b : Nat} {m m' : zM} {σ : zSt} {x : zRs} (h : zCR b m σ) (h1 : zrvM m' (b + 31) x.2) (h2 : zabM m' b (b + 31) x.1) (hf : ∀ a j, (b + 37 ≤ a ∧ a < b + 149) → m' a j = m a j) : zCR b m' (wR σ x) := by
  obtain ⟨g1, g2, g3, g4, g5⟩ := h
  refine ⟨fun s hs => (g1 s hs).e (fun a j _ _ => hf _ _ (by omega)), fun d hd => ⟨?_, (g2 d hd).2.e (fun a j _ _ => hf _ _ (by omega))⟩, fun c hc => (g3 c hc).e (fun a j _ _ => hf _ _ (by omega)), h1, h2⟩
  rw [hf _ _ (by omega)]
  exact (g2 d hd).1
theorem zfp_bd {σ : zSt} {ps : Nat → zPt} {N : Nat} : ∀ (n i : Nat), zfp σ ps N i n = -6 ∨ (0 ≤ zfp σ ps N i n ∧ zfp σ ps N i n < (N : Int))
  | 0, i => Or.inl rfl
  | n + 1, i => by
    have h := zff_bd (sC σ (ps i).1) (sU σ (ps i).1) (sV σ (ps i).1) 0 0 N
    unfold zfp
    split
    · exact Or.inr (by unfold zfl at *; omega)
    · exact zfp_bd n (i + 1)
theorem zfc_bd (σ : zSt) (c N : Nat) : zfc σ c N = -6 ∨ (0 ≤ zfc σ c N ∧ zfc σ c N < (N : Int)) := zfp_bd _ _
theorem c_X7_figures (G : zG) {A : zA} {m : zM} {b : Nat} {σ : zSt} {c bs n N : Int} (hA : zmilA A b) (hm : zCR b m σ) (ho : zStok σ) (hc : zi32 c) (hb : zi32 bs) (hn : zi32 n) (hN : zi32 N) : zMet G k_X7_figures [vr b, vi c, vi bs, vi n, vi N] A m (zpi A (fun r m' => zCR b m' (sp_figures σ c bs n N).2 ∧ zmo b m m' ∧ r = (sp_figures σ c bs n N).1)) := by
  obtain ⟨⟨hB, r0, r1, r2, r3, r4, r5, r6, r7, r8⟩, ⟨a1, a2, a3⟩, ⟨gG, gE, gP, gF, gT, gU⟩, hS, hDr, hC⟩ := id hA
  have gF1 := gF.1
  refine zMet.of RX7 rfl (by decide +kernel) (Nat.le_of_ble_eq_true rfl) [some (vr b), some (vi c), some (vi bs), some (vi n), some (vi N), none, none] rfl (fun E hG X hQ hNm => ?_)
  subst hG
  refine z_aload_n X dX7_figures_0 rfl ?_
  refine z_iload_n X dX7_figures_1 rfl ?_
  refine z_callVr X (As := [_]) dX7_figures_2 m_X7_constantAt i_X7_constantAt l_X7_160 (c_X7_constantAt (zg E) hA hc) (by first | assumption | exact zbigA.o (by assumption)) rfl rfl rfl (Nat.le_of_ble_eq_true rfl) ⟨Nat.le_of_ble_eq_true rfl, Nat.le_of_ble_eq_true rfl⟩ ⟨Nat.le_of_ble_eq_true rfl, Nat.le_of_ble_eq_true rfl⟩ ⟨rfl, rfl⟩ (fun f m1 hm1 => ?_)
  rcases f with _ | f
  · obtain ⟨rfl, hf⟩ := hm1
    refine z_astoreN X dX7_figures_5 [_, _, _, _, _, _, _] (by decide) rfl ?_
    refine z_aloadN X dX7_figures_7 rfl ?_
    refine z_ifnonnullN X dX7_figures_9 ?_
    refine z_iconst X dX7_figures_12 ?_
    refine z_ireturn (st := []) X rfl hQ dX7_figures_13 ⟨rfl, _, rfl, ?_⟩
    have h := hf.no
    unfold sp_figures
    rw [if_pos (by omega)]
    exact ⟨hm, fun _ _ _ => rfl, rfl⟩
  · obtain ⟨rfl, hf⟩ := hm1
    refine z_astore X dX7_figures_5 [_, _, _, _, _, _, _] (by decide) rfl ?_
    refine z_aload X dX7_figures_7 rfl ?_
    refine z_ifnonnull X dX7_figures_9 14 (by decide) ?_
    obtain ⟨k, hk, rfl, rfl⟩ := hf.yes
    refine z_iload_n X dX7_figures_14 rfl ?_
    refine z_iload_n X dX7_figures_15 rfl ?_
    refine z_callSi X (As := [_, _]) dX7_figures_16 m_X7_areFigures s_X7_areFigures l_X7_181 (c_X7_areFigures (zg E) hb hn) rfl rfl (Nat.le_of_ble_eq_true rfl) ⟨Nat.le_of_ble_eq_true rfl, Nat.le_of_ble_eq_true rfl⟩ ⟨Nat.le_of_ble_eq_true rfl, Nat.le_of_ble_eq_true rfl⟩ ⟨rfl, rfl⟩ (fun r1 m1 hm1 => ?_)
    obtain ⟨rfl, hr1⟩ := hm1
    refine z_if_eq X dX7_figures_19 30 (by decide) (by omega) (fun h19 => ?_) (fun h19 => ?_)
    · refine z_bipush X dX7_figures_30 (by decide) ?_
      refine z_ireturn (st := []) X rfl hQ dX7_figures_32 ⟨rfl, _, rfl, ?_⟩
      unfold sp_figures
      rw [if_neg (by omega), if_pos (by omega)]
      exact ⟨hm, fun _ _ _ => rfl, rfl⟩
    · refine z_iload X dX7_figures_22 rfl ?_
      refine z_callSi X (As := [_]) dX7_figures_24 m_X7_areTerms s_X7_areTerms l_X7_185 (c_X7_areTerms (zg E) hN) rfl rfl (Nat.le_of_ble_eq_true rfl) ⟨Nat.le_of_ble_eq_true rfl, Nat.le_of_ble_eq_true rfl⟩ ⟨Nat.le_of_ble_eq_true rfl, Nat.le_of_ble_eq_true rfl⟩ ⟨rfl, rfl⟩ (fun r2 m1 hm1 => ?_)
      obtain ⟨rfl, hr2⟩ := hm1
      refine z_if_ne X dX7_figures_27 33 (by decide) (by omega) (fun h27 => ?_) (fun h27 => ?_)
      · refine z_aload_n X dX7_figures_33 rfl ?_
        refine z_aload X dX7_figures_34 rfl ?_
        refine z_iload X dX7_figures_36 rfl ?_
        refine z_callVi X (As := [_, _]) dX7_figures_38 m_X7_firstFallOf i_X7_firstFallOf l_X7_188 (c_X7_firstFallOf (zg E) (N := N.toNat) hA hm ho hk (by omega) (by omega)) (by first | assumption | exact zbigA.o (by assumption)) rfl rfl rfl (Nat.le_of_ble_eq_true rfl) ⟨Nat.le_of_ble_eq_true rfl, Nat.le_of_ble_eq_true rfl⟩ ⟨Nat.le_of_ble_eq_true rfl, Nat.le_of_ble_eq_true rfl⟩ ⟨rfl, rfl⟩ (fun r9 m1 hm1 => ?_)
        obtain ⟨rfl, hr9⟩ := hm1
        have hR9 := zfc_bd σ k N.toNat
        rw [← hr9] at hR9
        have sp : sp_figures σ (k : Int) bs n N = if r9 ≠ -6 then (-100 - r9, σ) else ((ztl σ k bs n.toNat N.toNat).2.1, wR σ (some ((k : Int), bs, n, N), ztl σ k bs n.toNat N.toNat)) := by
          unfold sp_figures
          rw [if_neg (by omega), if_neg (by omega), Int.toNat_natCast, ← hr9]
        refine z_istore X dX7_figures_41 (fun y => [_, _, _, _, _, _, some (vi y)]) (by decide) (fun _ => rfl) (fun q hq => ?_)
        obtain rfl : q = r9 := by omega
        refine z_iload X dX7_figures_43 rfl ?_
        refine z_bipush X dX7_figures_45 (by decide) ?_
        refine z_icmp_eq X dX7_figures_47 56 (by decide) (by omega) (by omega) (fun h47 => ?_) (fun h47 => ?_)
        · refine z_aload_n X dX7_figures_56 rfl ?_
          refine z_aload X dX7_figures_57 rfl ?_
          refine z_iload_n X dX7_figures_59 rfl ?_
          refine z_iload_n X dX7_figures_60 rfl ?_
          refine z_iload X dX7_figures_61 rfl ?_
          refine z_aload_n X dX7_figures_63 rfl ?_
          refine z_getR X dX7_figures_64 f_X7_49 rfl (by first | assumption | exact zbigA.o (by assumption)) (by assumption) ?_
          refine z_callVv X (As := [_, _, _, _, _]) dX7_figures_67 m_X7_tell i_X7_tell l_X7_192 (c_X7_tell (zg E) (n := n.toNat) (N := N.toNat) hA ho hk (by omega) (by omega) (by omega) (by omega) (by omega) (Or.inl rfl) hm.1 (hm.2.2.1 k hk) (by omega)) (by first | assumption | exact zbigA.o (by assumption)) rfl rfl rfl (Nat.le_of_ble_eq_true rfl) ⟨Nat.le_of_ble_eq_true rfl, Nat.le_of_ble_eq_true rfl⟩ ⟨Nat.le_of_ble_eq_true rfl, Nat.le_of_ble_eq_true rfl⟩ ⟨rfl, rfl⟩ (fun m2 hm2 => ?_)
          obtain ⟨p1, ⟨p2, p3, p4, p5⟩, p6⟩ := hm2
          refine z_aload_n X dX7_figures_70 rfl ?_
          refine z_getR X dX7_figures_71 f_X7_49 rfl (by first | assumption | exact zbigA.o (by assumption)) (by assumption) ?_
          refine z_iload_n X dX7_figures_74 rfl ?_
          refine z_putI X dX7_figures_75 f_X7_196 rfl rfl (by first | assumption | exact zbigA.o (by assumption)) ?_
          refine z_aload_n X dX7_figures_78 rfl ?_
          refine z_iconst X dX7_figures_79 ?_
          refine z_putZ X dX7_figures_80 f_X7_199 (by first | exact Or.inl rfl | exact Or.inr rfl | omega) rfl rfl (by first | assumption | exact zbigA.o (by assumption)) ?_
          refine z_aload_n X dX7_figures_83 rfl ?_
          refine z_getR X dX7_figures_84 f_X7_49 rfl (by first | assumption | exact zbigA.o (by assumption)) (by assumption) ?_
          refine z_getI X dX7_figures_87 f_X7_202 rfl (by first | assumption | exact zbigA.o (by assumption)) ?_
          refine z_ireturn (st := []) X rfl hQ dX7_figures_90 ⟨rfl, _, rfl, ?_⟩
          rw [sp, if_neg (by omega)]
          have e1 : zrvM (zms (zms m2 (b + 31) 1 (k : Int)) b 9 1) (b + 31) (ztl σ k bs n.toNat N.toNat) := by
            obtain ⟨⟨w1, w2, w3⟩, w4, w5⟩ := p1
            refine ⟨⟨?_, w2, fun j hj => ?_⟩, ?_, ?_⟩
            · simpa [zms] using w1
            · rw [zms_nq _ _ _ _ _ (by omega), zms_nq _ _ _ _ _ (by omega)]; exact w3 j hj
            · simpa [zms] using w4
            · simpa [zms] using w5
          have e3 : m2 (b + 31) 3 = n := by rw [p4]; omega
          have e4 : m2 (b + 31) 4 = N := by rw [p5]; omega
          refine ⟨hm.re (x := (some ((k : Int), bs, n, N), ztl σ k bs n.toNat N.toNat)) e1 ⟨by simp [zms], by simp [zms], by simpa [zms] using p3, by simpa [zms] using e3, by simpa [zms] using e4⟩ (fun a j ha => ?_), fun a j ha => ?_, e1.1.1⟩
          · rw [zms_nq _ _ _ _ _ (by omega), zms_nq _ _ _ _ _ (by omega)]; exact p6 a j (by omega) (by omega) (by omega)
          · rw [zms_nq _ _ _ _ _ (by omega), zms_nq _ _ _ _ _ (by omega)]; exact p6 a j (by omega) (by omega) (by omega)
        · refine z_bipush X dX7_figures_50 (by decide) ?_
          refine z_iload X dX7_figures_52 rfl ?_
          refine z_isub X dX7_figures_54 ?_
          refine z_ireturn (st := []) X rfl hQ dX7_figures_55 ⟨rfl, _, rfl, ?_⟩
          rw [sp, if_pos (by omega)]
          exact ⟨hm, fun _ _ _ => rfl, rfl⟩
      · refine z_bipush X dX7_figures_30 (by decide) ?_
        refine z_ireturn (st := []) X rfl hQ dX7_figures_32 ⟨rfl, _, rfl, ?_⟩
        unfold sp_figures
        rw [if_neg (by omega), if_pos (by omega)]
        exact ⟨hm, fun _ _ _ => rfl, rfl⟩

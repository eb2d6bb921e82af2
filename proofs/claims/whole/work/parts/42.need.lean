/-! ConstantMill: need -/
theorem ztl_sure_bd {σ : zSt} {k N n : Nat} {b : Int} (ho : zStok σ) (hk : k < 4) (hf : zfc σ k N = -6) (hb : 2 ≤ b ∧ b ≤ 36) (hn : n ≤ 100) : -6 ≤ (ztl σ k b n N).2.1 ∧ (ztl σ k b n N).2.1 ≤ 100 := by
  rcases (ztl_ok (n := n) (b := b) ho hk hf hb hn).2.2.1 with ⟨h, _⟩ | ⟨h, h2⟩
  · rw [h]; omega
  · rw [h]; omega
theorem zl_need {E : zCx} (X : zOK E cX7_need RX7 10 (some .int) k_X7_need.2.2.2.2) {A : zA} {b k n M : Nat} {bs ci : Int} {m0 : zM} {σ : zSt} (hA : zmilA A b) (ho : zStok σ) (hk : k < 4) (hn : n ≤ 100) (hb : 2 ≤ bs ∧ bs ≤ 36) (hM : M ≤ 100) (hf : zfc σ k M = -6) (hm : zCR b m0 σ) {P : Int → zM → Prop} (hQ : zRet E (zpi A P) 0 0)
    (hP : ∀ (m' : zM) (l : Nat), (∀ a j, (a < b + 4 ∨ b + 31 ≤ a) → a ≠ b + 33 → a ≠ b + 34 → m' a j = m0 a j) → 1 ≤ l → l ≤ M + 1 → (∀ j, 1 ≤ j → j < l → ¬ zsok σ k bs n j) → (l ≤ M → zsok σ k bs n l) → P (if l ≤ M then (l : Int) else -5) m') :
    ∀ (r step l e : Nat) (m : zM) (l9 : Option Value), step + r = 7 → e - l < 2 ^ r → 1 ≤ l → l ≤ e → e ≤ M + 1 → (∀ j, 1 ≤ j → j < l → ¬ zsok σ k bs n j) → (∀ j, e ≤ j → j ≤ M → zsok σ k bs n j) → (∀ a j, (a < b + 4 ∨ b + 31 ≤ a) → a ≠ b + 33 → a ≠ b + 34 → m a j = m0 a j) → zW E (0, 0) A m 45 [some (vr b), some (vi ci), some (vi bs), some (vi (n : Int)), some (vr (b + 133 + 4 * k)), some (vi (M : Int)), some (vi (l : Int)), some (vi (e : Int)), some (vi (step : Int)), l9] [] := by
  obtain ⟨⟨hB, r0, r1, r2, r3, r4, r5, r6, r7, r8⟩, ⟨a1, a2, a3⟩, ⟨gG, gE, gP, gF, gT, gU⟩, hS, hDr, hC⟩ := id hA
  have gT1 := gT.1
  have fin : ∀ (m : zM) (l : Nat) (x8 x9 : Option Value), (∀ a j, (a < b + 4 ∨ b + 31 ≤ a) → a ≠ b + 33 → a ≠ b + 34 → m a j = m0 a j) → 1 ≤ l → l ≤ M + 1 → (∀ j, 1 ≤ j → j < l → ¬ zsok σ k bs n j) → (l ≤ M → zsok σ k bs n l) → zW E (0, 0) A m 112 [some (vr b), some (vi ci), some (vi bs), some (vi (n : Int)), some (vr (b + 133 + 4 * k)), some (vi (M : Int)), some (vi (l : Int)), some (vi (l : Int)), x8, x9] [] := by
    intro m l x8 x9 hF h1 h1' h2 h3
    have h := hP m l hF h1 h1' h2 h3
    refine z_iload X dX7_need_112 rfl ?_
    refine z_iload X dX7_need_114 rfl ?_
    refine z_icmp_gt X dX7_need_116 124 (by decide) (by omega) (by omega) (fun h116 => ?_) (fun h116 => ?_)
    · refine z_bipush X dX7_need_124 (by decide) ?_
      refine z_ireturn (st := []) X rfl hQ dX7_need_126 ⟨rfl, _, rfl, ?_⟩
      rw [if_neg (by omega)] at h
      exact h
    · refine z_iload X dX7_need_119 rfl ?_
      refine z_goto X dX7_need_121 126 (by decide) ?_
      refine z_ireturn (st := []) X rfl hQ dX7_need_126 ⟨rfl, _, rfl, ?_⟩
      rw [if_pos (by omega)] at h
      exact h
  intro r
  induction r with
  | zero =>
    intro step l e m l9 hst he h1 hle heM h2 h3 hF
    obtain rfl : e = l := by omega
    refine z_iload X dX7_need_45 rfl ?_
    refine z_iload X dX7_need_47 rfl ?_
    refine z_icmp_ge X dX7_need_49 112 (by decide) (by omega) (by omega) (fun h49 => ?_) (fun h49 => ?_)
    · exact fin m e _ _ hF h1 heM h2 (fun h => h3 e (by omega) h)
    · exact absurd h49 (by omega)
  | succ r ih =>
    intro step l e m l9 hst he h1 hle heM h2 h3 hF
    rw [Nat.pow_succ] at he
    refine z_iload X dX7_need_45 rfl ?_
    refine z_iload X dX7_need_47 rfl ?_
    refine z_icmp_ge X dX7_need_49 112 (by decide) (by omega) (by omega) (fun h49 => ?_) (fun h49 => ?_)
    · obtain rfl : e = l := by omega
      exact fin m e _ _ hF h1 heM h2 (fun h => h3 e (by omega) h)
    · refine z_iload X dX7_need_52 rfl ?_
      refine z_bipush X dX7_need_54 (by decide) ?_
      refine z_icmp_ge X dX7_need_56 112 (by decide) (by omega) (by omega) (fun h56 => ?_) (fun h56 => ?_)
      · omega
      · refine z_iload X dX7_need_59 rfl ?_
        refine z_iload X dX7_need_61 rfl ?_
        refine z_iadd X dX7_need_63 ?_
        refine z_iconst X dX7_need_64 ?_
        refine z_idiv X dX7_need_65 (by omega) (by omega) ?_
        refine z_istore X dX7_need_66 (fun y => [_, _, _, _, _, _, _, _, _, some (vi y)]) (by decide) (fun _ => rfl) (fun y hy => ?_)
        obtain ⟨N, rfl⟩ : ∃ N : Nat, y = (N : Int) := ⟨y.toNat, by omega⟩
        have hN : N = (l + e) / 2 := by omega
        have hfN : zfc σ k N = -6 := zfc_mono hf (by omega)
        have sb := ztl_sure_bd (n := n) ho hk hfN hb hn
        refine z_aload_n X dX7_need_68 rfl ?_
        refine z_aload X dX7_need_69 rfl ?_
        refine z_iload_n X dX7_need_71 rfl ?_
        refine z_iload_n X dX7_need_72 rfl ?_
        refine z_iload X dX7_need_73 rfl ?_
        refine z_aload_n X dX7_need_75 rfl ?_
        refine z_getR X dX7_need_76 f_X7_53 rfl (by first | assumption | exact zbigA.o (by assumption)) (by assumption) ?_
        refine z_callVv X (As := [_, _, _, _, _]) dX7_need_79 m_X7_tell i_X7_tell l_X7_192 (c_X7_tell (zg E) (n := n) (N := N) hA ho hk rfl rfl (by omega) hn hb (Or.inr (Or.inl rfl)) (fun s hs => (hm.1 s hs).e (fun a j _ _ => hF a j (by omega) (by omega) (by omega))) ((hm.2.2.1 k hk).e (fun a j _ _ => hF a j (by omega) (by omega) (by omega))) hfN) (by first | assumption | exact zbigA.o (by assumption)) rfl rfl rfl (Nat.le_of_ble_eq_true rfl) ⟨Nat.le_of_ble_eq_true rfl, Nat.le_of_ble_eq_true rfl⟩ ⟨Nat.le_of_ble_eq_true rfl, Nat.le_of_ble_eq_true rfl⟩ ⟨rfl, rfl⟩ (fun m2 hm2 => ?_)
        obtain ⟨⟨⟨p1, -, -⟩, -, -⟩, -, p6⟩ := hm2
        have hF2 : ∀ a j, (a < b + 4 ∨ b + 31 ≤ a) → a ≠ b + 33 → a ≠ b + 34 → m2 a j = m0 a j := fun a j q1 q2 q3 => (p6 a j q1 q2 (by omega)).trans (hF a j q1 q2 q3)
        refine z_aload_n X dX7_need_82 rfl ?_
        refine z_getR X dX7_need_83 f_X7_53 rfl (by first | assumption | exact zbigA.o (by assumption)) (by assumption) ?_
        refine z_getI X dX7_need_86 f_X7_202 rfl (by first | assumption | exact zbigA.o (by assumption)) ?_
        rw [p1]
        refine z_iload_n X dX7_need_89 rfl ?_
        refine z_icmp_lt X dX7_need_90 100 (by decide) (by omega) (by omega) (fun h90 => ?_) (fun h90 => ?_)
        · refine z_iload X dX7_need_100 rfl ?_
          refine z_iconst X dX7_need_102 ?_
          refine z_iadd X dX7_need_103 ?_
          refine z_istore X dX7_need_104 (fun y => [_, _, _, _, _, _, some (vi y), _, _, _]) (by decide) (fun _ => rfl) (fun z hz => ?_)
          skip
          refine z_iinc X dX7_need_106 rfl (fun y => [_, _, _, _, _, _, _, _, some (vi y), _]) (fun _ => rfl) (fun w hw => ?_)
          obtain rfl : w = ((step + 1 : Nat) : Int) := by omega
          obtain rfl : z = ((N + 1 : Nat) : Int) := by omega
          refine z_goto X dX7_need_109 45 (by decide) ?_
          refine ih (step + 1) (N + 1) e m2 _ (by omega) (by omega) (by omega) (by omega) heM (fun j g1 g2 g3 => ?_) h3 hF2
          obtain ⟨d, hd⟩ : ∃ d, N = j + d := ⟨N - j, by omega⟩
          have := zsok_mono ho hk hfN hb hn g1 g3 d (by omega)
          rw [← hd] at this
          unfold zsok at this
          omega
        · refine z_iload X dX7_need_93 rfl ?_
          refine z_istore X dX7_need_95 (fun y => [_, _, _, _, _, _, _, some (vi y), _, _]) (by decide) (fun _ => rfl) (fun x7_95 hx7_95 => ?_)
          subst hx7_95
          refine z_goto X dX7_need_97 106 (by decide) ?_
          skip
          refine z_iinc X dX7_need_106 rfl (fun y => [_, _, _, _, _, _, _, _, some (vi y), _]) (fun _ => rfl) (fun w hw => ?_)
          obtain rfl : w = ((step + 1 : Nat) : Int) := by omega
          refine z_goto X dX7_need_109 45 (by decide) ?_
          refine ih (step + 1) l N m2 _ (by omega) (by omega) (by omega) (by omega) (by omega) h2 (fun j g1 g2 => ?_) hF2
          obtain ⟨d, rfl⟩ : ∃ d, j = N + d := ⟨j - N, by omega⟩
          exact zsok_mono ho hk hf hb hn (by omega) (show zsok σ k bs n N by unfold zsok; omega) d (by omega)
theorem c_X7_need (G : zG) {A : zA} {m : zM} {b : Nat} {σ : zSt} {c bs n : Int} (hA : zmilA A b) (hm : zCR b m σ) (ho : zStok σ) (hc : zi32 c) (hb : zi32 bs) (hn : zi32 n) : zMet G k_X7_need [vr b, vi c, vi bs, vi n] A m (zpi A (fun r m' => zCR b m' σ ∧ zmo b m m' ∧ r = sp_need σ c bs n)) := by
  obtain ⟨⟨hB, r0, r1, r2, r3, r4, r5, r6, r7, r8⟩, ⟨a1, a2, a3⟩, ⟨gG, gE, gP, gF, gT, gU⟩, hS, hDr, hC⟩ := id hA
  refine zMet.of RX7 rfl (by decide +kernel) (Nat.le_of_ble_eq_true rfl) [some (vr b), some (vi c), some (vi bs), some (vi n), none, none, none, none, none, none] rfl (fun E hG X hQ hNm => ?_)
  subst hG
  refine z_aload_n X dX7_need_0 rfl ?_
  refine z_iload_n X dX7_need_1 rfl ?_
  refine z_callVr X (As := [_]) dX7_need_2 m_X7_constantAt i_X7_constantAt l_X7_160 (c_X7_constantAt (zg E) hA hc) (by first | assumption | exact zbigA.o (by assumption)) rfl rfl rfl (Nat.le_of_ble_eq_true rfl) ⟨Nat.le_of_ble_eq_true rfl, Nat.le_of_ble_eq_true rfl⟩ ⟨Nat.le_of_ble_eq_true rfl, Nat.le_of_ble_eq_true rfl⟩ ⟨rfl, rfl⟩ (fun x m1 hm1 => ?_)
  rcases x with _ | x
  · obtain ⟨rfl, hx⟩ := hm1
    refine z_astoreN X dX7_need_5 [_, _, _, _, _, _, _, _, _, _] (by decide) rfl ?_
    refine z_aloadN X dX7_need_7 rfl ?_
    refine z_ifnonnullN X dX7_need_9 ?_
    refine z_iconst X dX7_need_12 ?_
    refine z_ireturn (st := []) X rfl hQ dX7_need_13 ⟨rfl, _, rfl, ?_⟩
    have h := hx.no
    unfold sp_need
    rw [if_pos (by omega)]
    exact ⟨hm, fun _ _ _ => rfl, rfl⟩
  · obtain ⟨rfl, hx⟩ := hm1
    refine z_astore X dX7_need_5 [_, _, _, _, _, _, _, _, _, _] (by decide) rfl ?_
    refine z_aload X dX7_need_7 rfl ?_
    refine z_ifnonnull X dX7_need_9 14 (by decide) ?_
    obtain ⟨k, hk, rfl, rfl⟩ := hx.yes
    refine z_iload_n X dX7_need_14 rfl ?_
    refine z_iload_n X dX7_need_15 rfl ?_
    refine z_callSi X (As := [_, _]) dX7_need_16 m_X7_areFigures s_X7_areFigures l_X7_181 (c_X7_areFigures (zg E) hb hn) rfl rfl (Nat.le_of_ble_eq_true rfl) ⟨Nat.le_of_ble_eq_true rfl, Nat.le_of_ble_eq_true rfl⟩ ⟨Nat.le_of_ble_eq_true rfl, Nat.le_of_ble_eq_true rfl⟩ ⟨rfl, rfl⟩ (fun r1 m1 hm3 => ?_)
    obtain ⟨rfl, hr1⟩ := hm3
    refine z_if_ne X dX7_need_19 25 (by decide) (by omega) (fun h19 => ?_) (fun h19 => ?_)
    · refine z_aload_n X dX7_need_25 rfl ?_
      refine z_aload X dX7_need_26 rfl ?_
      refine z_callVi X (As := [_]) dX7_need_28 m_X7_mostTermsOf i_X7_mostTermsOf l_X7_205 (c_X7_mostTermsOf (zg E) hA hm ho hk) (by first | assumption | exact zbigA.o (by assumption)) rfl rfl rfl (Nat.le_of_ble_eq_true rfl) ⟨Nat.le_of_ble_eq_true rfl, Nat.le_of_ble_eq_true rfl⟩ ⟨Nat.le_of_ble_eq_true rfl, Nat.le_of_ble_eq_true rfl⟩ ⟨rfl, rfl⟩ (fun r2 m1 hm4 => ?_)
      obtain ⟨rfl, M, rfl, hM, hf, hf2⟩ := hm4
      refine z_istore X dX7_need_31 (fun y => [_, _, _, _, _, some (vi y), _, _, _, _]) (by decide) (fun _ => rfl) (fun x5_31 hx5_31 => ?_)
      subst hx5_31
      refine z_iconst X dX7_need_33 ?_
      refine z_istore X dX7_need_34 (fun y => [_, _, _, _, _, _, some (vi y), _, _, _]) (by decide) (fun _ => rfl) (fun x6_34 hx6_34 => ?_)
      subst hx6_34
      refine z_iload X dX7_need_36 rfl ?_
      refine z_iconst X dX7_need_38 ?_
      refine z_iadd X dX7_need_39 ?_
      refine z_istore X dX7_need_40 (fun y => [_, _, _, _, _, _, _, some (vi y), _, _]) (by decide) (fun _ => rfl) (fun e he => ?_)
      refine z_iconst X dX7_need_42 ?_
      refine z_istore X dX7_need_43 (fun y => [_, _, _, _, _, _, _, _, some (vi y), _]) (by decide) (fun _ => rfl) (fun x8_43 hx8_43 => ?_)
      subst hx8_43
      obtain rfl : e = ((M + 1 : Nat) : Int) := by omega
      obtain ⟨nn, rfl⟩ : ∃ nn : Nat, n = (nn : Int) := ⟨n.toNat, by omega⟩
      refine zl_need X hA ho hk (n := nn) (by omega) (by omega) hM hf hm hQ (fun m' l hF g1 g2 g3 g4 => ⟨hm.e (fun a j ha => hF a j (by omega) (by omega) (by omega)), fun a j ha => hF a j (by omega) (by omega) (by omega), ?_⟩) 7 0 1 (M + 1) m none rfl (by omega) (by omega) (by omega) (by omega) (fun j h1 h2 => absurd h1 (by omega)) (fun j h1 h2 => absurd h1 (by omega)) (fun _ _ _ _ _ => rfl)
      have sp : sp_need σ (k : Int) bs (nn : Int) = znd σ k bs nn 1 100 := by
        unfold sp_need
        rw [if_neg (by omega), if_neg (by omega), Int.toNat_natCast, Int.toNat_natCast]
      rw [sp]
      by_cases hl : l ≤ M
      · rw [if_pos hl]
        exact (znd_at hM hf hl (g4 hl) 100 1 (by omega) (by omega) g1 g3).symm
      · rw [if_neg hl]
        exact (znd_none hM hf hf2 100 1 (by omega) (by omega) (by omega) (fun j h1 h2 => g3 j h1 (by omega))).symm
    · refine z_bipush X dX7_need_22 (by decide) ?_
      refine z_ireturn (st := []) X rfl hQ dX7_need_24 ⟨rfl, _, rfl, ?_⟩
      unfold sp_need
      rw [if_neg (by omega), if_pos (by omega)]
      exact ⟨hm, fun _ _ _ => rfl, rfl⟩

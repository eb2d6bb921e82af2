/-! ConstantMill: constants; the result -/
theorem c_X7_part (G : zG) {A : zA} {m : zM} {b : Nat} {σ : zSt} {c s x y : Int} (hA : zmilA A b) (hm : zCR b m σ) (ho : zStok σ) (hc : zi32 c) (hs : zi32 s) (hx : zi32 x) (hy : zi32 y) : zMet G k_X7_part [vr b, vi c, vi s, vi x, vi y] A m (zpi A (fun r m' => zCR b m' (sp_part σ c s x y).2 ∧ zmo b m m' ∧ r = (sp_part σ c s x y).1)) := by
  obtain ⟨⟨hB, r0, r1, r2, r3, r4, r5, r6, r7, r8⟩, ⟨a1, a2, a3⟩, ⟨gG, gE, gP, gF, gT, gU⟩, hS, hD, hC⟩ := id hA
  have out : (¬ zin c 0 3 ∨ ¬ zin s 0 5) → zCR b m (sp_part σ c s x y).2 ∧ zmo b m m ∧ -1 = (sp_part σ c s x y).1 := fun h => by
    unfold sp_part
    rw [if_pos h]
    exact ⟨hm, fun _ _ _ => rfl, rfl⟩
  unfold zi32 at hx hy
  refine zMet.of RX7 rfl (by decide +kernel) (Nat.le_of_ble_eq_true rfl) [some (vr b), some (vi c), some (vi s), some (vi x), some (vi y), none] rfl (fun E hG X hQ hNm => ?_)
  subst hG
  refine z_aload_n X dX7_part_0 rfl ?_
  refine z_iload_n X dX7_part_1 rfl ?_
  refine z_callVr X (As := [_]) dX7_part_2 m_X7_constantAt i_X7_constantAt l_X7_160 (c_X7_constantAt (zg E) hA hc) (by first | assumption | exact zbigA.o (by assumption)) rfl rfl rfl (Nat.le_of_ble_eq_true rfl) ⟨Nat.le_of_ble_eq_true rfl, Nat.le_of_ble_eq_true rfl⟩ ⟨Nat.le_of_ble_eq_true rfl, Nat.le_of_ble_eq_true rfl⟩ ⟨rfl, rfl⟩ (fun f m1 hm1 => ?_)
  rcases f with _ | f
  · obtain ⟨rfl, hf⟩ := hm1
    refine z_astoreN X dX7_part_5 [_, _, _, _, _, _] (by decide) rfl ?_
    refine z_aloadN X dX7_part_7 rfl ?_
    refine z_ifnullN X dX7_part_9 20 (by decide) ?_
    refine z_iconst X dX7_part_20 ?_
    refine z_ireturn (st := []) X rfl hQ dX7_part_21 ⟨rfl, _, rfl, ?_⟩
    exact out (by first | exact Or.inl hf.no | exact Or.inr hg.no)
  · obtain ⟨rfl, hf⟩ := hm1
    refine z_astore X dX7_part_5 [_, _, _, _, _, _] (by decide) rfl ?_
    refine z_aload X dX7_part_7 rfl ?_
    refine z_ifnull X dX7_part_9 ?_
    refine z_aload_n X dX7_part_12 rfl ?_
    refine z_iload_n X dX7_part_13 rfl ?_
    refine z_callVr X (As := [_]) dX7_part_14 m_X7_sumAt i_X7_sumAt l_X7_61 (c_X7_sumAt (zg E) hA hs) (by first | assumption | exact zbigA.o (by assumption)) rfl rfl rfl (Nat.le_of_ble_eq_true rfl) ⟨Nat.le_of_ble_eq_true rfl, Nat.le_of_ble_eq_true rfl⟩ ⟨Nat.le_of_ble_eq_true rfl, Nat.le_of_ble_eq_true rfl⟩ ⟨rfl, rfl⟩ (fun g m1 hm2 => ?_)
    rcases g with _ | g
    · obtain ⟨rfl, hg⟩ := hm2
      refine z_ifnonnullN X dX7_part_17 ?_
      refine z_iconst X dX7_part_20 ?_
      refine z_ireturn (st := []) X rfl hQ dX7_part_21 ⟨rfl, _, rfl, ?_⟩
      exact out (by first | exact Or.inl hf.no | exact Or.inr hg.no)
    · obtain ⟨rfl, hg⟩ := hm2
      refine z_ifnonnull X dX7_part_17 22 (by decide) ?_
      obtain ⟨k, hk, rfl, rfl⟩ := hf.yes
      obtain ⟨t, ht, rfl, rfl⟩ := hg.yes
      have hc1 := (hC k hk).2
      have hc2 := hc1.1
      have hk4 := (ho.2.2.1 k hk).1
      obtain ⟨q1, q2⟩ := hm.2.2.1 k hk
      refine z_iload_n X dX7_part_22 rfl ?_
      refine z_ldc X dX7_part_23 q_X7_164 (-1000000) (by decide) ?_
      refine z_icmp_lt X dX7_part_25 47 (by decide) (by omega) (by omega) (fun h25 => ?_) (fun h25 => ?_)
      · refine z_bipush X dX7_part_47 (by decide) ?_
        refine z_ireturn (st := []) X rfl hQ dX7_part_49 ⟨rfl, _, rfl, ?_⟩
        unfold sp_part
        rw [if_neg (by omega), if_pos (by omega)]
        exact ⟨hm, fun _ _ _ => rfl, rfl⟩
      · refine z_iload_n X dX7_part_28 rfl ?_
        refine z_ldc X dX7_part_29 q_X7_80 (1000000) (by decide) ?_
        refine z_icmp_gt X dX7_part_31 47 (by decide) (by omega) (by omega) (fun h31 => ?_) (fun h31 => ?_)
        · refine z_bipush X dX7_part_47 (by decide) ?_
          refine z_ireturn (st := []) X rfl hQ dX7_part_49 ⟨rfl, _, rfl, ?_⟩
          unfold sp_part
          rw [if_neg (by omega), if_pos (by omega)]
          exact ⟨hm, fun _ _ _ => rfl, rfl⟩
        · refine z_iload X dX7_part_34 rfl ?_
          refine z_iconst X dX7_part_36 ?_
          refine z_icmp_lt X dX7_part_37 47 (by decide) (by omega) (by omega) (fun h37 => ?_) (fun h37 => ?_)
          · refine z_bipush X dX7_part_47 (by decide) ?_
            refine z_ireturn (st := []) X rfl hQ dX7_part_49 ⟨rfl, _, rfl, ?_⟩
            unfold sp_part
            rw [if_neg (by omega), if_pos (by omega)]
            exact ⟨hm, fun _ _ _ => rfl, rfl⟩
          · refine z_iload X dX7_part_40 rfl ?_
            refine z_ldc X dX7_part_42 q_X7_80 (1000000) (by decide) ?_
            refine z_icmp_le X dX7_part_44 50 (by decide) (by omega) (by omega) (fun h44 => ?_) (fun h44 => ?_)
            · refine z_aload X dX7_part_50 rfl ?_
              refine z_iload_n X dX7_part_52 rfl ?_
              refine z_iload_n X dX7_part_53 rfl ?_
              refine z_iload X dX7_part_54 rfl ?_
              refine z_callVi X (As := [_, _, _]) dX7_part_56 m_X1_addPart i_X1_addPart l_X7_165 (c_X1_addPart (zg E) hc1 q1 hk4) (by first | assumption | exact zbigA.o (by assumption)) rfl rfl rfl (Nat.le_of_ble_eq_true rfl) ⟨Nat.le_of_ble_eq_true rfl, Nat.le_of_ble_eq_true rfl⟩ ⟨Nat.le_of_ble_eq_true rfl, Nat.le_of_ble_eq_true rfl⟩ ⟨rfl, rfl⟩ (fun r m1 hm3 => ?_)
              have hr01 : r = 0 ∨ r = 1 := by
                rcases hm3 with h | h
                · exact Or.inl h.2.1
                · exact Or.inr h.2.1
              refine z_if_eq X dX7_part_59 70 (by decide) (by omega) (fun h59 => ?_) (fun h59 => ?_)
              · obtain ⟨h4, -, rfl⟩ : (sK σ k).1 = 4 ∧ r = 0 ∧ m1 = m := by
                  rcases hm3 with h | h
                  · exact h
                  · exact absurd h59 (by omega)
                refine z_bipush X dX7_part_70 (by decide) ?_
                refine z_ireturn (st := []) X rfl hQ dX7_part_72 ⟨rfl, _, rfl, ?_⟩
                unfold sp_part
                rw [if_neg (by omega), if_neg (by omega), Int.toNat_natCast, if_pos h4]
                exact ⟨hm, fun _ _ _ => rfl, rfl⟩
              · obtain ⟨h4, -, rfl⟩ : (sK σ k).1 < 4 ∧ r = 1 ∧ m1 = zms (zms (zms (zms m (b + 133 + 4 * k + 1) (sK σ k).1 (t : Int)) (b + 133 + 4 * k + 2) (sK σ k).1 x) (b + 133 + 4 * k + 3) (sK σ k).1 y) (b + 133 + 4 * k) 3 (((sK σ k).1 : Int) + 1) := by
                  rcases hm3 with h | h
                  · exact absurd h.2.1 (by omega)
                  · exact h
                refine z_aload X dX7_part_62 rfl ?_
                refine z_getI X dX7_part_64 f_X7_169 rfl (by first | assumption | exact zbigA.o (by assumption)) ?_
                refine z_goto X dX7_part_67 72 (by decide) ?_
                refine z_ireturn (st := []) X rfl hQ dX7_part_72 ⟨rfl, _, rfl, ?_⟩
                unfold sp_part
                rw [if_neg (by omega), if_neg (by omega), Int.toNat_natCast, Int.toNat_natCast, if_neg (by omega)]
                refine ⟨hm.co hk ⟨zms_same _ _ _ _, fun i hi => ?_⟩ (fun a j h => by rw [zms_nq _ _ _ _ _ (by omega), zms_nq _ _ _ _ _ (by omega), zms_nq _ _ _ _ _ (by omega), zms_nq _ _ _ _ _ (by omega)]), fun a j h => by rw [zms_nq _ _ _ _ _ (by omega), zms_nq _ _ _ _ _ (by omega), zms_nq _ _ _ _ _ (by omega), zms_nq _ _ _ _ _ (by omega)], zms_same _ _ _ _⟩
                by_cases hi2 : i = (sK σ k).1
                · subst hi2
                  dsimp only
                  rw [zup_same]
                  simp [zms]
                · dsimp only
                  rw [zup_ne _ _ hi2]
                  have := q2 i (by have : i < (sK σ k).1 + 1 := hi; omega)
                  simp [zms, hi2]
                  exact this
            · refine z_bipush X dX7_part_47 (by decide) ?_
              refine z_ireturn (st := []) X rfl hQ dX7_part_49 ⟨rfl, _, rfl, ?_⟩
              unfold sp_part
              rw [if_neg (by omega), if_pos (by omega)]
              exact ⟨hm, fun _ _ _ => rfl, rfl⟩
theorem c_X7_clear (G : zG) {A : zA} {m : zM} {b : Nat} {σ : zSt} {c : Int} (hA : zmilA A b) (hm : zCR b m σ) (ho : zStok σ) (hc : zi32 c) : zMet G k_X7_clear [vr b, vi c] A m (zpi A (fun r m' => zCR b m' (sp_clear σ c).2 ∧ zmo b m m' ∧ r = (sp_clear σ c).1)) := by
  obtain ⟨⟨hB, r0, r1, r2, r3, r4, r5, r6, r7, r8⟩, ⟨a1, a2, a3⟩, ⟨gG, gE, gP, gF, gT, gU⟩, hS, hD, hC⟩ := id hA
  refine zMet.of RX7 rfl (by decide +kernel) (Nat.le_of_ble_eq_true rfl) [some (vr b), some (vi c), none, none] rfl (fun E hG X hQ hNm => ?_)
  subst hG
  refine z_aload_n X dX7_clear_0 rfl ?_
  refine z_iload_n X dX7_clear_1 rfl ?_
  refine z_callVr X (As := [_]) dX7_clear_2 m_X7_constantAt i_X7_constantAt l_X7_160 (c_X7_constantAt (zg E) hA hc) (by first | assumption | exact zbigA.o (by assumption)) rfl rfl rfl (Nat.le_of_ble_eq_true rfl) ⟨Nat.le_of_ble_eq_true rfl, Nat.le_of_ble_eq_true rfl⟩ ⟨Nat.le_of_ble_eq_true rfl, Nat.le_of_ble_eq_true rfl⟩ ⟨rfl, rfl⟩ (fun f m1 hm1 => ?_)
  rcases f with _ | f
  · obtain ⟨rfl, hf⟩ := hm1
    refine z_astore_nN X dX7_clear_5 [_, _, _, _] (by decide) rfl ?_
    refine z_aload_nN X dX7_clear_6 rfl ?_
    refine z_ifnonnullN X dX7_clear_7 ?_
    refine z_iconst X dX7_clear_10 ?_
    refine z_ireturn (st := []) X rfl hQ dX7_clear_11 ⟨rfl, _, rfl, ?_⟩
    have h := hf.no
    unfold sp_clear
    rw [if_pos (by omega)]
    exact ⟨hm, fun _ _ _ => rfl, rfl⟩
  · obtain ⟨rfl, hf⟩ := hm1
    refine z_astore_n X dX7_clear_5 [_, _, _, _] (by decide) rfl ?_
    refine z_aload_n X dX7_clear_6 rfl ?_
    refine z_ifnonnull X dX7_clear_7 12 (by decide) ?_
    obtain ⟨k, hk, rfl, rfl⟩ := hf.yes
    have hc1 := (hC k hk).2
    have hc2 := hc1.1
    have hk4 := (ho.2.2.1 k hk).1
    obtain ⟨q1, q2⟩ := hm.2.2.1 k hk
    refine z_aload_n X dX7_clear_12 rfl ?_
    refine z_getI X dX7_clear_13 f_X7_169 rfl (by first | assumption | exact zbigA.o (by assumption)) ?_
    refine z_istore_n X dX7_clear_16 (fun y => [_, _, _, some (vi y)]) (by decide) (fun _ => rfl) (fun z hz => ?_)
    refine z_aload_n X dX7_clear_17 rfl ?_
    refine z_iconst X dX7_clear_18 ?_
    refine z_putI X dX7_clear_19 f_X7_169 rfl rfl (by first | assumption | exact zbigA.o (by assumption)) ?_
    refine z_iload_n X dX7_clear_22 rfl ?_
    refine z_ireturn (st := []) X rfl hQ dX7_clear_23 ⟨rfl, _, rfl, ?_⟩
    unfold sp_clear
    rw [if_neg (by omega), Int.toNat_natCast]
    exact ⟨hm.co hk ⟨zms_same _ _ _ _, fun i hi => absurd hi (by show ¬ i < 0; omega)⟩ (fun a j h => zms_nq _ _ _ _ _ (by omega)), fun a j h => zms_nq _ _ _ _ _ (by omega), by show z = ((sK σ k).1 : Int); omega⟩
theorem c_X7_told (G : zG) {A : zA} {m : zM} {b : Nat} {σ : zSt} {c p w : Int} (hA : zmilA A b) (hm : zCR b m σ) (ho : zStok σ) (hc : zi32 c) (hp : zi32 p) (hw : zi32 w) : zMet G k_X7_told [vr b, vi c, vi p, vi w] A m (zpi A (fun r m' => m = m' ∧ r = sp_told σ c p w)) := by
  obtain ⟨⟨hB, r0, r1, r2, r3, r4, r5, r6, r7, r8⟩, ⟨a1, a2, a3⟩, ⟨gG, gE, gP, gF, gT, gU⟩, hS, hD, hC⟩ := id hA
  unfold zi32 at hp hw
  refine zMet.of RX7 rfl (by decide +kernel) (Nat.le_of_ble_eq_true rfl) [some (vr b), some (vi c), some (vi p), some (vi w), none] rfl (fun E hG X hQ hNm => ?_)
  subst hG
  refine z_aload_n X dX7_told_0 rfl ?_
  refine z_iload_n X dX7_told_1 rfl ?_
  refine z_callVr X (As := [_]) dX7_told_2 m_X7_constantAt i_X7_constantAt l_X7_160 (c_X7_constantAt (zg E) hA hc) (by first | assumption | exact zbigA.o (by assumption)) rfl rfl rfl (Nat.le_of_ble_eq_true rfl) ⟨Nat.le_of_ble_eq_true rfl, Nat.le_of_ble_eq_true rfl⟩ ⟨Nat.le_of_ble_eq_true rfl, Nat.le_of_ble_eq_true rfl⟩ ⟨rfl, rfl⟩ (fun f m1 hm1 => ?_)
  rcases f with _ | f
  · obtain ⟨rfl, hf⟩ := hm1
    refine z_astoreN X dX7_told_5 [_, _, _, _, _] (by decide) rfl ?_
    refine z_aloadN X dX7_told_7 rfl ?_
    refine z_ifnullN X dX7_told_9 25 (by decide) ?_
    refine z_ldc X dX7_told_25 q_X7_88 (-1000000001) (by decide) ?_
    refine z_ireturn (st := []) X rfl hQ dX7_told_27 ⟨rfl, _, rfl, ?_⟩
    have h := hf.no
    refine ⟨rfl, ?_⟩
    unfold sp_told
    rw [if_pos (Or.inl (by omega))]
  · obtain ⟨rfl, hf⟩ := hm1
    refine z_astore X dX7_told_5 [_, _, _, _, _] (by decide) rfl ?_
    refine z_aload X dX7_told_7 rfl ?_
    refine z_ifnull X dX7_told_9 ?_
    obtain ⟨k, hk, rfl, rfl⟩ := hf.yes
    have hc1 := (hC k hk).2
    have hc2 := hc1.1
    obtain ⟨⟨c1, c2, c3⟩, c4, c5, c6⟩ := hc1.2
    have hk4 := (ho.2.2.1 k hk).1
    obtain ⟨q1, q2⟩ := hm.2.2.1 k hk
    have sp : sp_told σ (k : Int) p w = if ¬ zin (k : Int) 0 3 ∨ p < 0 ∨ ((sK σ k).1 : Int) ≤ p then -1000000001 else if ¬ zin w 0 2 then -1000000002 else if w = 0 then (((sK σ k).2 p.toNat).1 : Int) else if w = 1 then ((sK σ k).2 p.toNat).2.1 else ((sK σ k).2 p.toNat).2.2 := by
      unfold sp_told
      rw [Int.toNat_natCast]
    refine z_iload_n X dX7_told_12 rfl ?_
    refine z_if_lt X dX7_told_13 25 (by decide) (by omega) (fun h13 => ?_) (fun h13 => ?_)
    · refine z_ldc X dX7_told_25 q_X7_88 (-1000000001) (by decide) ?_
      refine z_ireturn (st := []) X rfl hQ dX7_told_27 ⟨rfl, _, rfl, ?_⟩
      refine ⟨rfl, ?_⟩
      rw [sp, if_pos (by omega)]
    · refine z_iload_n X dX7_told_16 rfl ?_
      refine z_aload X dX7_told_17 rfl ?_
      refine z_getI X dX7_told_19 f_X7_169 rfl (by first | assumption | exact zbigA.o (by assumption)) ?_
      refine z_icmp_lt X dX7_told_22 28 (by decide) (by omega) (by omega) (fun h22 => ?_) (fun h22 => ?_)
      · refine z_iload_n X dX7_told_28 rfl ?_
        refine z_if_lt X dX7_told_29 37 (by decide) (by omega) (fun h29 => ?_) (fun h29 => ?_)
        · refine z_ldc X dX7_told_37 q_X7_89 (-1000000002) (by decide) ?_
          refine z_ireturn (st := []) X rfl hQ dX7_told_39 ⟨rfl, _, rfl, ?_⟩
          refine ⟨rfl, ?_⟩
          rw [sp, if_neg (by omega), if_pos (by omega)]
        · refine z_iload_n X dX7_told_32 rfl ?_
          refine z_iconst X dX7_told_33 ?_
          refine z_icmp_le X dX7_told_34 40 (by decide) (by omega) (by omega) (fun h34 => ?_) (fun h34 => ?_)
          · obtain ⟨t1, t2, t3⟩ := q2 p.toNat (by omega)
            refine z_iload_n X dX7_told_40 rfl ?_
            refine z_if_ne X dX7_told_41 54 (by decide) (by omega) (fun h41 => ?_) (fun h41 => ?_)
            · refine z_iload_n X dX7_told_54 rfl ?_
              refine z_iconst X dX7_told_55 ?_
              refine z_icmp_ne X dX7_told_56 69 (by decide) (by omega) (by omega) (fun h56 => ?_) (fun h56 => ?_)
              · refine z_aload X dX7_told_69 rfl ?_
                refine z_getR X dX7_told_71 f_X7_179 rfl (by first | assumption | exact zbigA.o (by assumption)) (by assumption) ?_
                refine z_iload_n X dX7_told_74 rfl ?_
                refine z_iald X (p.toNat) dX7_told_75 (by omega) (by assumption) (by omega) (by omega) ?_
                refine z_ireturn (st := []) X rfl hQ dX7_told_76 ⟨rfl, _, rfl, ?_⟩
                refine ⟨rfl, ?_⟩
                rw [sp, if_neg (by omega), if_neg (by omega), if_neg (by omega), if_neg (by omega)]
                exact t3
              · refine z_aload X dX7_told_59 rfl ?_
                refine z_getR X dX7_told_61 f_X7_176 rfl (by first | assumption | exact zbigA.o (by assumption)) (by assumption) ?_
                refine z_iload_n X dX7_told_64 rfl ?_
                refine z_iald X (p.toNat) dX7_told_65 (by omega) (by assumption) (by omega) (by omega) ?_
                refine z_goto X dX7_told_66 76 (by decide) ?_
                refine z_ireturn (st := []) X rfl hQ dX7_told_76 ⟨rfl, _, rfl, ?_⟩
                refine ⟨rfl, ?_⟩
                rw [sp, if_neg (by omega), if_neg (by omega), if_neg (by omega), if_pos (by omega)]
                exact t2
            · refine z_aload X dX7_told_44 rfl ?_
              refine z_getR X dX7_told_46 f_X7_172 rfl (by first | assumption | exact zbigA.o (by assumption)) (by assumption) ?_
              refine z_iload_n X dX7_told_49 rfl ?_
              refine z_iald X (p.toNat) dX7_told_50 (by omega) (by assumption) (by omega) (by omega) ?_
              refine z_goto X dX7_told_51 76 (by decide) ?_
              refine z_ireturn (st := []) X rfl hQ dX7_told_76 ⟨rfl, _, rfl, ?_⟩
              refine ⟨rfl, ?_⟩
              rw [sp, if_neg (by omega), if_neg (by omega), if_pos (by omega)]
              exact t1
          · refine z_ldc X dX7_told_37 q_X7_89 (-1000000002) (by decide) ?_
            refine z_ireturn (st := []) X rfl hQ dX7_told_39 ⟨rfl, _, rfl, ?_⟩
            refine ⟨rfl, ?_⟩
            rw [sp, if_neg (by omega), if_pos (by omega)]
      · refine z_ldc X dX7_told_25 q_X7_88 (-1000000001) (by decide) ?_
        refine z_ireturn (st := []) X rfl hQ dX7_told_27 ⟨rfl, _, rfl, ?_⟩
        refine ⟨rfl, ?_⟩
        rw [sp, if_pos (by omega)]
theorem c_X7_signOf (G : zG) {A : zA} {m : zM} {b : Nat} {σ : zSt} (hA : zmilA A b) (hm : zCR b m σ) : zMet G k_X7_signOf [vr b] A m (zpi A (fun r m' => m = m' ∧ r = sp_signOf σ)) := by
  obtain ⟨⟨hB, r0, r1, r2, r3, r4, r5, r6, r7, r8⟩, ⟨a1, a2, a3⟩, ⟨gG, gE, gP, gF, gT, gU⟩, hS, hD, hC⟩ := id hA
  have gF1 := gF.1
  refine zMet.of RX7 rfl (by decide +kernel) (Nat.le_of_ble_eq_true rfl) [some (vr b)] rfl (fun E hG X hQ hNm => ?_)
  subst hG
  refine z_aload_n X dX7_signOf_0 rfl ?_
  refine z_getR X dX7_signOf_1 f_X7_49 rfl (by first | assumption | exact zbigA.o (by assumption)) (by assumption) ?_
  refine z_getI X dX7_signOf_4 f_X7_209 rfl (by first | assumption | exact zbigA.o (by assumption)) ?_
  refine z_ireturn (st := []) X rfl hQ dX7_signOf_7 ⟨rfl, _, rfl, ?_⟩
  exact ⟨rfl, hm.2.2.2.1.2.1⟩
theorem c_X7_whole (G : zG) {A : zA} {m : zM} {b : Nat} {σ : zSt} (hA : zmilA A b) (hm : zCR b m σ) : zMet G k_X7_whole [vr b] A m (zpl A (fun r m' => m = m' ∧ r = sp_whole σ)) := by
  obtain ⟨⟨hB, r0, r1, r2, r3, r4, r5, r6, r7, r8⟩, ⟨a1, a2, a3⟩, ⟨gG, gE, gP, gF, gT, gU⟩, hS, hD, hC⟩ := id hA
  have gF1 := gF.1
  refine zMet.of RX7 rfl (by decide +kernel) (Nat.le_of_ble_eq_true rfl) [some (vr b)] rfl (fun E hG X hQ hNm => ?_)
  subst hG
  refine z_aload_n X dX7_whole_0 rfl ?_
  refine z_getR X dX7_whole_1 f_X7_49 rfl (by first | assumption | exact zbigA.o (by assumption)) (by assumption) ?_
  refine z_getL X dX7_whole_4 f_X7_212 rfl (by first | assumption | exact zbigA.o (by assumption)) ?_
  refine z_lreturn (st := []) X rfl hQ dX7_whole_7 ⟨rfl, _, rfl, ?_⟩
  exact ⟨rfl, hm.2.2.2.1.2.2⟩
theorem c_X7_figure (G : zG) {A : zA} {m : zM} {b : Nat} {σ : zSt} {i : Int} (hA : zmilA A b) (hm : zCR b m σ) (hi : zi32 i) : zMet G k_X7_figure [vr b, vi i] A m (zpi A (fun r m' => m = m' ∧ r = sp_figure σ i)) := by
  obtain ⟨⟨hB, r0, r1, r2, r3, r4, r5, r6, r7, r8⟩, ⟨a1, a2, a3⟩, ⟨gG, gE, gP, gF, gT, gU⟩, hS, hD, hC⟩ := id hA
  have gF1 := gF.1
  refine zMet.of RX7 rfl (by decide +kernel) (Nat.le_of_ble_eq_true rfl) [some (vr b), some (vi i)] rfl (fun E hG X hQ hNm => ?_)
  subst hG
  refine z_aload_n X dX7_figure_0 rfl ?_
  refine z_getR X dX7_figure_1 f_X7_49 rfl (by first | assumption | exact zbigA.o (by assumption)) (by assumption) ?_
  refine z_iload_n X dX7_figure_4 rfl ?_
  refine z_callVi X (As := [_]) dX7_figure_5 m_X3_behindPoint i_X3_behindPoint l_X7_216 (c_X3_behindPoint (zg E) gF hm.2.2.2.1.1 hi) (by first | assumption | exact zbigA.o (by assumption)) rfl rfl rfl (Nat.le_of_ble_eq_true rfl) ⟨Nat.le_of_ble_eq_true rfl, Nat.le_of_ble_eq_true rfl⟩ ⟨Nat.le_of_ble_eq_true rfl, Nat.le_of_ble_eq_true rfl⟩ ⟨rfl, rfl⟩ (fun r9 m9 hm9 => ?_)
  refine z_ireturn (st := []) X rfl hQ dX7_figure_8 ⟨rfl, _, rfl, ?_⟩
  exact hm9
theorem c_X7_count (G : zG) {A : zA} {m : zM} {b : Nat} {σ : zSt} {i : Int} (hA : zmilA A b) (hm : zCR b m σ) (hi : zi32 i) : zMet G k_X7_count [vr b, vi i] A m (zpi A (fun r m' => m = m' ∧ r = sp_count σ i)) := by
  obtain ⟨⟨hB, r0, r1, r2, r3, r4, r5, r6, r7, r8⟩, ⟨a1, a2, a3⟩, ⟨gG, gE, gP, gF, gT, gU⟩, hS, hD, hC⟩ := id hA
  have gF1 := gF.1
  unfold zi32 at hi
  refine zMet.of RX7 rfl (by decide +kernel) (Nat.le_of_ble_eq_true rfl) [some (vr b), some (vi i)] rfl (fun E hG X hQ hNm => ?_)
  subst hG
  refine z_iload_n X dX7_count_0 rfl ?_
  refine z_if_lt X dX7_count_1 10 (by decide) (by omega) (fun h1 => ?_) (fun h1 => ?_)
  · refine z_bipush X dX7_count_10 (by decide) ?_
    refine z_ireturn (st := []) X rfl hQ dX7_count_12 ⟨rfl, _, rfl, ?_⟩
    refine ⟨rfl, ?_⟩
    unfold sp_count
    rw [if_pos (by omega)]
  · refine z_iload_n X dX7_count_4 rfl ?_
    refine z_bipush X dX7_count_5 (by decide) ?_
    refine z_icmp_lt X dX7_count_7 13 (by decide) (by omega) (by omega) (fun h7 => ?_) (fun h7 => ?_)
    · refine z_aload_n X dX7_count_13 rfl ?_
      refine z_getR X dX7_count_14 f_X7_49 rfl (by first | assumption | exact zbigA.o (by assumption)) (by assumption) ?_
      refine z_iload_n X dX7_count_17 rfl ?_
      refine z_callVi X (As := [_]) dX7_count_18 m_X3_howOften i_X3_howOften l_X7_219 (c_X3_howOften (zg E) gF hm.2.2.2.1.1 (by omega)) (by first | assumption | exact zbigA.o (by assumption)) rfl rfl rfl (Nat.le_of_ble_eq_true rfl) ⟨Nat.le_of_ble_eq_true rfl, Nat.le_of_ble_eq_true rfl⟩ ⟨Nat.le_of_ble_eq_true rfl, Nat.le_of_ble_eq_true rfl⟩ ⟨rfl, rfl⟩ (fun r9 m9 hm9 => ?_)
      refine z_ireturn (st := []) X rfl hQ dX7_count_21 ⟨rfl, _, rfl, ?_⟩
      refine ⟨hm9.1, ?_⟩
      unfold sp_count
      rw [if_neg (by omega)]
      exact hm9.2
    · refine z_bipush X dX7_count_10 (by decide) ?_
      refine z_ireturn (st := []) X rfl hQ dX7_count_12 ⟨rfl, _, rfl, ?_⟩
      refine ⟨rfl, ?_⟩
      unfold sp_count
      rw [if_pos (by omega)]
theorem c_X7_where (G : zG) {A : zA} {m : zM} {b : Nat} {σ : zSt} {i k : Int} (hA : zmilA A b) (hm : zCR b m σ) (hi : zi32 i) (hk : zi32 k) : zMet G k_X7_where [vr b, vi i, vi k] A m (zpi A (fun r m' => m = m' ∧ r = sp_where σ i k)) := by
  obtain ⟨⟨hB, r0, r1, r2, r3, r4, r5, r6, r7, r8⟩, ⟨a1, a2, a3⟩, ⟨gG, gE, gP, gF, gT, gU⟩, hS, hD, hC⟩ := id hA
  have gF1 := gF.1
  unfold zi32 at hi hk
  refine zMet.of RX7 rfl (by decide +kernel) (Nat.le_of_ble_eq_true rfl) [some (vr b), some (vi i), some (vi k)] rfl (fun E hG X hQ hNm => ?_)
  subst hG
  refine z_iload_n X dX7_where_0 rfl ?_
  refine z_iconst X dX7_where_1 ?_
  refine z_icmp_lt X dX7_where_2 10 (by decide) (by omega) (by omega) (fun h2 => ?_) (fun h2 => ?_)
  · refine z_bipush X dX7_where_10 (by decide) ?_
    refine z_ireturn (st := []) X rfl hQ dX7_where_12 ⟨rfl, _, rfl, ?_⟩
    refine ⟨rfl, ?_⟩
    unfold sp_where
    rw [if_pos (by omega)]
  · refine z_iload_n X dX7_where_5 rfl ?_
    refine z_iconst X dX7_where_6 ?_
    refine z_icmp_le X dX7_where_7 13 (by decide) (by omega) (by omega) (fun h7 => ?_) (fun h7 => ?_)
    · refine z_aload_n X dX7_where_13 rfl ?_
      refine z_getR X dX7_where_14 f_X7_49 rfl (by first | assumption | exact zbigA.o (by assumption)) (by assumption) ?_
      refine z_iload_n X dX7_where_17 rfl ?_
      refine z_iload_n X dX7_where_18 rfl ?_
      refine z_callVi X (As := [_, _]) dX7_where_19 m_X3_placeOf i_X3_placeOf l_X7_222 (c_X3_placeOf (zg E) (k := k.toNat) gF hm.2.2.2.1.1 hi (by omega) (by omega)) (by first | assumption | exact zbigA.o (by assumption)) rfl rfl rfl (Nat.le_of_ble_eq_true rfl) ⟨Nat.le_of_ble_eq_true rfl, Nat.le_of_ble_eq_true rfl⟩ ⟨Nat.le_of_ble_eq_true rfl, Nat.le_of_ble_eq_true rfl⟩ ⟨rfl, rfl⟩ (fun r9 m9 hm9 => ?_)
      refine z_ireturn (st := []) X rfl hQ dX7_where_22 ⟨rfl, _, rfl, ?_⟩
      refine ⟨hm9.1, ?_⟩
      unfold sp_where
      rw [if_neg (by omega)]
      exact hm9.2
    · refine z_bipush X dX7_where_10 (by decide) ?_
      refine z_ireturn (st := []) X rfl hQ dX7_where_12 ⟨rfl, _, rfl, ?_⟩
      refine ⟨rfl, ?_⟩
      unfold sp_where
      rw [if_pos (by omega)]
theorem zabM.h {m : zM} {b f : Nat} {x : Option (Int × Int × Int × Int)} (h : zabM m b f x) : (m b 9 = 0 ∧ x = none) ∨ (m b 9 = 1 ∧ ∃ y, x = some y ∧ m f 1 = y.1 ∧ m f 2 = y.2.1 ∧ m f 3 = y.2.2.1 ∧ m f 4 = y.2.2.2) := by
  cases x with
  | none => exact Or.inl ⟨h, rfl⟩
  | some y => exact Or.inr ⟨h.1, y, rfl, h.2⟩
theorem zabM.b9 {m : zM} {b f : Nat} {x : Option (Int × Int × Int × Int)} (h : zabM m b f x) : m b 9 = 0 ∨ m b 9 = 1 := by
  rcases h.h with ⟨h, _⟩ | ⟨h, _⟩
  · exact Or.inl h
  · exact Or.inr h
theorem c_X7_about (G : zG) {A : zA} {m : zM} {b : Nat} {σ : zSt} {w : Int} (hA : zmilA A b) (hm : zCR b m σ) (hw : zi32 w) : zMet G k_X7_about [vr b, vi w] A m (zpi A (fun r m' => m = m' ∧ r = sp_about σ w)) := by
  obtain ⟨⟨hB, r0, r1, r2, r3, r4, r5, r6, r7, r8⟩, ⟨a1, a2, a3⟩, ⟨gG, gE, gP, gF, gT, gU⟩, hS, hD, hC⟩ := id hA
  have gF1 := gF.1
  have b9 := hm.2.2.2.2.b9
  have hS6 : m (b + 31) 6 = (sR σ).2.2.1 := hm.2.2.2.1.1.1
  unfold zi32 at hw
  refine zMet.of RX7 rfl (by decide +kernel) (Nat.le_of_ble_eq_true rfl) [some (vr b), some (vi w)] rfl (fun E hG X hQ hNm => ?_)
  subst hG
  refine z_iload_n X dX7_about_0 rfl ?_
  refine z_if_lt X dX7_about_1 9 (by decide) (by omega) (fun h1 => ?_) (fun h1 => ?_)
  · refine z_bipush X dX7_about_9 (by decide) ?_
    refine z_ireturn (st := []) X rfl hQ dX7_about_11 ⟨rfl, _, rfl, ?_⟩
    refine ⟨rfl, ?_⟩
    unfold sp_about
    rw [if_pos (by omega)]
  · refine z_iload_n X dX7_about_4 rfl ?_
    refine z_iconst X dX7_about_5 ?_
    refine z_icmp_le X dX7_about_6 12 (by decide) (by omega) (by omega) (fun h6 => ?_) (fun h6 => ?_)
    · refine z_aload_n X dX7_about_12 rfl ?_
      refine z_getI X dX7_about_13 f_X7_199 rfl (by first | assumption | exact zbigA.o (by assumption)) ?_
      refine z_if_ne X dX7_about_16 22 (by decide) (by omega) (fun h16 => ?_) (fun h16 => ?_)
      · rcases hm.2.2.2.2.h with ⟨h, _⟩ | ⟨_, y, e, e1, e2, e3, e4⟩
        · exact absurd h h16
        have sp : sp_about σ w = if w = 0 then y.1 else if w = 1 then y.2.1 else if w = 2 then y.2.2.1 else if w = 3 then y.2.2.2 else (sR σ).2.2.1 := by
          unfold sp_about
          rw [if_neg (by omega), e]
        refine z_iload_n X dX7_about_22 rfl ?_
        rcases (show w = 0 ∨ w = 1 ∨ w = 2 ∨ w = 3 ∨ w = 4 by omega) with rfl | rfl | rfl | rfl | rfl
        · refine z_tableIn X dX7_about_23 52 (by omega) (by omega) (by omega) (off := 29) (by decide) (by decide) ?_
          refine z_aload_n X dX7_about_52 rfl ?_
          refine z_getR X dX7_about_53 f_X7_49 rfl (by first | assumption | exact zbigA.o (by assumption)) (by assumption) ?_
          refine z_getI X dX7_about_56 f_X7_196 rfl (by first | assumption | exact zbigA.o (by assumption)) ?_
          refine z_ireturn (st := []) X rfl hQ dX7_about_59 ⟨rfl, _, rfl, ?_⟩
          refine ⟨rfl, ?_⟩
          rw [sp]
          exact e1
        · refine z_tableIn X dX7_about_23 60 (by omega) (by omega) (by omega) (off := 37) (by decide) (by decide) ?_
          refine z_aload_n X dX7_about_60 rfl ?_
          refine z_getR X dX7_about_61 f_X7_49 rfl (by first | assumption | exact zbigA.o (by assumption)) (by assumption) ?_
          refine z_getI X dX7_about_64 f_X7_225 rfl (by first | assumption | exact zbigA.o (by assumption)) ?_
          refine z_ireturn (st := []) X rfl hQ dX7_about_67 ⟨rfl, _, rfl, ?_⟩
          refine ⟨rfl, ?_⟩
          rw [sp]
          exact e2
        · refine z_tableIn X dX7_about_23 68 (by omega) (by omega) (by omega) (off := 45) (by decide) (by decide) ?_
          refine z_aload_n X dX7_about_68 rfl ?_
          refine z_getR X dX7_about_69 f_X7_49 rfl (by first | assumption | exact zbigA.o (by assumption)) (by assumption) ?_
          refine z_getI X dX7_about_72 f_X7_228 rfl (by first | assumption | exact zbigA.o (by assumption)) ?_
          refine z_ireturn (st := []) X rfl hQ dX7_about_75 ⟨rfl, _, rfl, ?_⟩
          refine ⟨rfl, ?_⟩
          rw [sp]
          exact e3
        · refine z_tableIn X dX7_about_23 76 (by omega) (by omega) (by omega) (off := 53) (by decide) (by decide) ?_
          refine z_aload_n X dX7_about_76 rfl ?_
          refine z_getR X dX7_about_77 f_X7_49 rfl (by first | assumption | exact zbigA.o (by assumption)) (by assumption) ?_
          refine z_getI X dX7_about_80 f_X7_231 rfl (by first | assumption | exact zbigA.o (by assumption)) ?_
          refine z_ireturn (st := []) X rfl hQ dX7_about_83 ⟨rfl, _, rfl, ?_⟩
          refine ⟨rfl, ?_⟩
          rw [sp]
          exact e4
        · refine z_tableOut X dX7_about_23 84 (by omega) (by omega) (by decide) ?_
          refine z_aload_n X dX7_about_84 rfl ?_
          refine z_getR X dX7_about_85 f_X7_49 rfl (by first | assumption | exact zbigA.o (by assumption)) (by assumption) ?_
          refine z_getI X dX7_about_88 f_X7_202 rfl (by first | assumption | exact zbigA.o (by assumption)) ?_
          refine z_ireturn (st := []) X rfl hQ dX7_about_91 ⟨rfl, _, rfl, ?_⟩
          refine ⟨rfl, ?_⟩
          rw [sp]
          exact hS6
      · refine z_bipush X dX7_about_19 (by decide) ?_
        refine z_ireturn (st := []) X rfl hQ dX7_about_21 ⟨rfl, _, rfl, ?_⟩
        refine ⟨rfl, ?_⟩
        rcases hm.2.2.2.2.h with ⟨_, e⟩ | ⟨h, _⟩
        · unfold sp_about
          rw [if_neg (by omega), e]
        · omega
    · refine z_bipush X dX7_about_9 (by decide) ?_
      refine z_ireturn (st := []) X rfl hQ dX7_about_11 ⟨rfl, _, rfl, ?_⟩
      refine ⟨rfl, ?_⟩
      unfold sp_about
      rw [if_pos (by omega)]

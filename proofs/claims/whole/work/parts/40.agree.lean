/-! ConstantMill: agree -/
theorem c_X7_agree (G : zG) {A : zA} {m : zM} {b : Nat} {σ : zSt} {c d bs n N : Int} (hA : zmilA A b) (hm : zCR b m σ) (ho : zStok σ) (hc : zi32 c) (hd : zi32 d) (hb : zi32 bs) (hn : zi32 n) (hN : zi32 N) : zMet G k_X7_agree [vr b, vi c, vi d, vi bs, vi n, vi N] A m (zpi A (fun r m' => zCR b m' σ ∧ zmo b m m' ∧ r = sp_agree σ c d bs n N)) := by
  obtain ⟨⟨hB, r0, r1, r2, r3, r4, r5, r6, r7, r8⟩, ⟨a1, a2, a3⟩, ⟨gG, gE, gP, gF, gT, gU⟩, hS, hDr, hC⟩ := id hA
  have gT1 := gT.1
  have gU1 := gU.1
  have out : (¬ zin c 0 3 ∨ ¬ zin d 0 3) → zCR b m σ ∧ zmo b m m ∧ -1 = sp_agree σ c d bs n N := fun h => by
    unfold sp_agree
    rw [if_pos h]
    exact ⟨hm, fun _ _ _ => rfl, rfl⟩
  refine zMet.of RX7 rfl (by decide +kernel) (Nat.le_of_ble_eq_true rfl) [some (vr b), some (vi c), some (vi d), some (vi bs), some (vi n), some (vi N), none, none, none] rfl (fun E hG X hQ hNm => ?_)
  subst hG
  refine z_aload_n X dX7_agree_0 rfl ?_
  refine z_iload_n X dX7_agree_1 rfl ?_
  refine z_callVr X (As := [_]) dX7_agree_2 m_X7_constantAt i_X7_constantAt l_X7_160 (c_X7_constantAt (zg E) hA hc) (by first | assumption | exact zbigA.o (by assumption)) rfl rfl rfl (Nat.le_of_ble_eq_true rfl) ⟨Nat.le_of_ble_eq_true rfl, Nat.le_of_ble_eq_true rfl⟩ ⟨Nat.le_of_ble_eq_true rfl, Nat.le_of_ble_eq_true rfl⟩ ⟨rfl, rfl⟩ (fun x m1 hm1 => ?_)
  rcases x with _ | x
  · obtain ⟨rfl, hx⟩ := hm1
    refine z_astoreN X dX7_agree_5 [_, _, _, _, _, _, _, _, _] (by decide) rfl ?_
    refine z_aload_n X dX7_agree_7 rfl ?_
    refine z_iload_n X dX7_agree_8 rfl ?_
    refine z_callVr X (As := [_]) dX7_agree_9 m_X7_constantAt i_X7_constantAt l_X7_160 (c_X7_constantAt (zg E) hA hd) (by first | assumption | exact zbigA.o (by assumption)) rfl rfl rfl (Nat.le_of_ble_eq_true rfl) ⟨Nat.le_of_ble_eq_true rfl, Nat.le_of_ble_eq_true rfl⟩ ⟨Nat.le_of_ble_eq_true rfl, Nat.le_of_ble_eq_true rfl⟩ ⟨rfl, rfl⟩ (fun y m1 hm2 => ?_)
    rcases y with _ | y
    · obtain ⟨rfl, hy⟩ := hm2
      refine z_astoreN X dX7_agree_12 [_, _, _, _, _, _, _, _, _] (by decide) rfl ?_
      refine z_aloadN X dX7_agree_14 rfl ?_
      refine z_ifnullN X dX7_agree_16 24 (by decide) ?_
      refine z_iconst X dX7_agree_24 ?_
      refine z_ireturn (st := []) X rfl hQ dX7_agree_25 ⟨rfl, _, rfl, ?_⟩
      exact out (by first | exact Or.inl hx.no | exact Or.inr hy.no)
    · obtain ⟨rfl, hy⟩ := hm2
      refine z_astore X dX7_agree_12 [_, _, _, _, _, _, _, _, _] (by decide) rfl ?_
      refine z_aloadN X dX7_agree_14 rfl ?_
      refine z_ifnullN X dX7_agree_16 24 (by decide) ?_
      refine z_iconst X dX7_agree_24 ?_
      refine z_ireturn (st := []) X rfl hQ dX7_agree_25 ⟨rfl, _, rfl, ?_⟩
      exact out (by first | exact Or.inl hx.no | exact Or.inr hy.no)
  · obtain ⟨rfl, hx⟩ := hm1
    refine z_astore X dX7_agree_5 [_, _, _, _, _, _, _, _, _] (by decide) rfl ?_
    refine z_aload_n X dX7_agree_7 rfl ?_
    refine z_iload_n X dX7_agree_8 rfl ?_
    refine z_callVr X (As := [_]) dX7_agree_9 m_X7_constantAt i_X7_constantAt l_X7_160 (c_X7_constantAt (zg E) hA hd) (by first | assumption | exact zbigA.o (by assumption)) rfl rfl rfl (Nat.le_of_ble_eq_true rfl) ⟨Nat.le_of_ble_eq_true rfl, Nat.le_of_ble_eq_true rfl⟩ ⟨Nat.le_of_ble_eq_true rfl, Nat.le_of_ble_eq_true rfl⟩ ⟨rfl, rfl⟩ (fun y m1 hm2 => ?_)
    rcases y with _ | y
    · obtain ⟨rfl, hy⟩ := hm2
      refine z_astoreN X dX7_agree_12 [_, _, _, _, _, _, _, _, _] (by decide) rfl ?_
      refine z_aload X dX7_agree_14 rfl ?_
      refine z_ifnull X dX7_agree_16 ?_
      refine z_aloadN X dX7_agree_19 rfl ?_
      refine z_ifnonnullN X dX7_agree_21 ?_
      refine z_iconst X dX7_agree_24 ?_
      refine z_ireturn (st := []) X rfl hQ dX7_agree_25 ⟨rfl, _, rfl, ?_⟩
      exact out (by first | exact Or.inl hx.no | exact Or.inr hy.no)
    · obtain ⟨rfl, hy⟩ := hm2
      refine z_astore X dX7_agree_12 [_, _, _, _, _, _, _, _, _] (by decide) rfl ?_
      refine z_aload X dX7_agree_14 rfl ?_
      refine z_ifnull X dX7_agree_16 ?_
      refine z_aload X dX7_agree_19 rfl ?_
      refine z_ifnonnull X dX7_agree_21 26 (by decide) ?_
      obtain ⟨k, hk, rfl, rfl⟩ := hx.yes
      obtain ⟨l, hl, rfl, rfl⟩ := hy.yes
      refine z_iload_n X dX7_agree_26 rfl ?_
      refine z_iload X dX7_agree_27 rfl ?_
      refine z_callSi X (As := [_, _]) dX7_agree_29 m_X7_areFigures s_X7_areFigures l_X7_181 (c_X7_areFigures (zg E) hb hn) rfl rfl (Nat.le_of_ble_eq_true rfl) ⟨Nat.le_of_ble_eq_true rfl, Nat.le_of_ble_eq_true rfl⟩ ⟨Nat.le_of_ble_eq_true rfl, Nat.le_of_ble_eq_true rfl⟩ ⟨rfl, rfl⟩ (fun r1 m1 hm3 => ?_)
      obtain ⟨rfl, hr1⟩ := hm3
      refine z_if_eq X dX7_agree_32 43 (by decide) (by omega) (fun h32 => ?_) (fun h32 => ?_)
      · refine z_bipush X dX7_agree_43 (by decide) ?_
        refine z_ireturn (st := []) X rfl hQ dX7_agree_45 ⟨rfl, _, rfl, ?_⟩
        unfold sp_agree
        rw [if_neg (by omega), if_pos (by omega)]
        exact ⟨hm, fun _ _ _ => rfl, rfl⟩
      · refine z_iload X dX7_agree_35 rfl ?_
        refine z_callSi X (As := [_]) dX7_agree_37 m_X7_areTerms s_X7_areTerms l_X7_185 (c_X7_areTerms (zg E) hN) rfl rfl (Nat.le_of_ble_eq_true rfl) ⟨Nat.le_of_ble_eq_true rfl, Nat.le_of_ble_eq_true rfl⟩ ⟨Nat.le_of_ble_eq_true rfl, Nat.le_of_ble_eq_true rfl⟩ ⟨rfl, rfl⟩ (fun r2 m1 hm4 => ?_)
        obtain ⟨rfl, hr2⟩ := hm4
        refine z_if_ne X dX7_agree_40 46 (by decide) (by omega) (fun h40 => ?_) (fun h40 => ?_)
        · refine z_aload_n X dX7_agree_46 rfl ?_
          refine z_aload X dX7_agree_47 rfl ?_
          refine z_iload X dX7_agree_49 rfl ?_
          refine z_callVi X (As := [_, _]) dX7_agree_51 m_X7_firstFallOf i_X7_firstFallOf l_X7_188 (c_X7_firstFallOf (zg E) (N := N.toNat) hA hm ho hk (by omega) (by omega)) (by first | assumption | exact zbigA.o (by assumption)) rfl rfl rfl (Nat.le_of_ble_eq_true rfl) ⟨Nat.le_of_ble_eq_true rfl, Nat.le_of_ble_eq_true rfl⟩ ⟨Nat.le_of_ble_eq_true rfl, Nat.le_of_ble_eq_true rfl⟩ ⟨rfl, rfl⟩ (fun r9 m1 hm5 => ?_)
          obtain ⟨rfl, hr9⟩ := hm5
          have hR9 := zfc_bd σ k N.toNat
          rw [← hr9] at hR9
          refine z_istore X dX7_agree_54 (fun y => [_, _, _, _, _, _, _, _, some (vi y)]) (by decide) (fun _ => rfl) (fun p hp => ?_)
          obtain rfl : p = r9 := by omega
          refine z_iload X dX7_agree_56 rfl ?_
          refine z_bipush X dX7_agree_58 (by decide) ?_
          refine z_icmp_ne X dX7_agree_60 73 (by decide) (by omega) (by omega) (fun h60 => ?_) (fun h60 => ?_)
          · refine z_iload X dX7_agree_73 rfl ?_
            refine z_bipush X dX7_agree_75 (by decide) ?_
            refine z_icmp_eq X dX7_agree_77 86 (by decide) (by omega) (by omega) (fun h77 => ?_) (fun h77 => ?_)
            · exact absurd h77 h60
            · refine z_bipush X dX7_agree_80 (by decide) ?_
              refine z_iload X dX7_agree_82 rfl ?_
              refine z_isub X dX7_agree_84 ?_
              refine z_ireturn (st := []) X rfl hQ dX7_agree_85 ⟨rfl, _, rfl, ?_⟩
              unfold sp_agree
              rw [if_neg (by omega), if_neg (by omega), Int.toNat_natCast, ← hr9, if_pos (by omega)]
              exact ⟨hm, fun _ _ _ => rfl, rfl⟩
          · refine z_aload_n X dX7_agree_63 rfl ?_
            refine z_aload X dX7_agree_64 rfl ?_
            refine z_iload X dX7_agree_66 rfl ?_
            refine z_callVi X (As := [_, _]) dX7_agree_68 m_X7_firstFallOf i_X7_firstFallOf l_X7_188 (c_X7_firstFallOf (zg E) (N := N.toNat) hA hm ho hl (by omega) (by omega)) (by first | assumption | exact zbigA.o (by assumption)) rfl rfl rfl (Nat.le_of_ble_eq_true rfl) ⟨Nat.le_of_ble_eq_true rfl, Nat.le_of_ble_eq_true rfl⟩ ⟨Nat.le_of_ble_eq_true rfl, Nat.le_of_ble_eq_true rfl⟩ ⟨rfl, rfl⟩ (fun r8 m1 hm6 => ?_)
            obtain ⟨rfl, hr8⟩ := hm6
            have hR8 := zfc_bd σ l N.toNat
            rw [← hr8] at hR8
            refine z_istore X dX7_agree_71 (fun y => [_, _, _, _, _, _, _, _, some (vi y)]) (by decide) (fun _ => rfl) (fun w hw => ?_)
            obtain rfl : w = r8 := by omega
            refine z_iload X dX7_agree_73 rfl ?_
            refine z_bipush X dX7_agree_75 (by decide) ?_
            refine z_icmp_eq X dX7_agree_77 86 (by decide) (by omega) (by omega) (fun h77 => ?_) (fun h77 => ?_)
            · refine z_aload_n X dX7_agree_86 rfl ?_
              refine z_aload X dX7_agree_87 rfl ?_
              refine z_iload_n X dX7_agree_89 rfl ?_
              refine z_iload X dX7_agree_90 rfl ?_
              refine z_iload X dX7_agree_92 rfl ?_
              refine z_aload_n X dX7_agree_94 rfl ?_
              refine z_getR X dX7_agree_95 f_X7_53 rfl (by first | assumption | exact zbigA.o (by assumption)) (by assumption) ?_
              refine z_callVv X (As := [_, _, _, _, _]) dX7_agree_98 m_X7_tell i_X7_tell l_X7_192 (c_X7_tell (zg E) (n := n.toNat) (N := N.toNat) hA ho hk (by omega) (by omega) (by omega) (by omega) (by omega) (Or.inr (Or.inl rfl)) hm.1 (hm.2.2.1 k hk) (by omega)) (by first | assumption | exact zbigA.o (by assumption)) rfl rfl rfl (Nat.le_of_ble_eq_true rfl) ⟨Nat.le_of_ble_eq_true rfl, Nat.le_of_ble_eq_true rfl⟩ ⟨Nat.le_of_ble_eq_true rfl, Nat.le_of_ble_eq_true rfl⟩ ⟨rfl, rfl⟩ (fun m2 hm7 => ?_)
              obtain ⟨p1, -, p6⟩ := hm7
              refine z_aload_n X dX7_agree_101 rfl ?_
              refine z_aload X dX7_agree_102 rfl ?_
              refine z_iload_n X dX7_agree_104 rfl ?_
              refine z_iload X dX7_agree_105 rfl ?_
              refine z_iload X dX7_agree_107 rfl ?_
              refine z_aload_n X dX7_agree_109 rfl ?_
              refine z_getR X dX7_agree_110 f_X7_56 rfl (by first | assumption | exact zbigA.o (by assumption)) (by assumption) ?_
              refine z_callVv X (As := [_, _, _, _, _]) dX7_agree_113 m_X7_tell i_X7_tell l_X7_192 (c_X7_tell (zg E) (n := n.toNat) (N := N.toNat) hA ho hl (by omega) (by omega) (by omega) (by omega) (by omega) (Or.inr (Or.inr rfl)) (fun s hs => (hm.1 s hs).e (fun a j _ _ => p6 a j (by omega) (by omega) (by omega))) ((hm.2.2.1 l hl).e (fun a j _ _ => p6 a j (by omega) (by omega) (by omega))) (by omega)) (by first | assumption | exact zbigA.o (by assumption)) rfl rfl rfl (Nat.le_of_ble_eq_true rfl) ⟨Nat.le_of_ble_eq_true rfl, Nat.le_of_ble_eq_true rfl⟩ ⟨Nat.le_of_ble_eq_true rfl, Nat.le_of_ble_eq_true rfl⟩ ⟨rfl, rfl⟩ (fun m3 hm8 => ?_)
              obtain ⟨q1, -, q6⟩ := hm8
              obtain ⟨v1, v2, v3⟩ := p1.e (m' := m3) (fun a j _ _ => q6 a j (by omega) (by omega) (by omega))
              obtain ⟨w1, w2, w3⟩ := q1
              have ok1 := (ztl_ok (n := n.toNat) (b := bs) ho hk (show zfc σ k N.toNat = -6 by omega) (by omega) (by omega)).2
              have ok2 := (ztl_ok (n := n.toNat) (b := bs) ho hl (show zfc σ l N.toNat = -6 by omega) (by omega) (by omega)).2
              refine z_aload_n X dX7_agree_116 rfl ?_
              refine z_getR X dX7_agree_117 f_X7_53 rfl (by first | assumption | exact zbigA.o (by assumption)) (by assumption) ?_
              refine z_aload_n X dX7_agree_120 rfl ?_
              refine z_getR X dX7_agree_121 f_X7_56 rfl (by first | assumption | exact zbigA.o (by assumption)) (by assumption) ?_
              refine z_callVi X (As := [_]) dX7_agree_124 m_X3_firstDifference i_X3_firstDifference l_X7_233 (c_X3_firstDifference (zg E) gT gU v1 w1 (by rw [v2, w2]; exact ⟨ok1.1, ok2.1⟩) (by rw [v3, w3]; exact ⟨ok1.2.2.1, ok2.2.2.1⟩)) (by first | assumption | exact zbigA.o (by assumption)) rfl rfl rfl (Nat.le_of_ble_eq_true rfl) ⟨Nat.le_of_ble_eq_true rfl, Nat.le_of_ble_eq_true rfl⟩ ⟨Nat.le_of_ble_eq_true rfl, Nat.le_of_ble_eq_true rfl⟩ ⟨rfl, rfl⟩ (fun rr m4 hm9 => ?_)
              refine z_ireturn (st := []) X rfl hQ dX7_agree_127 ⟨rfl, _, rfl, ?_⟩
              obtain ⟨rfl, rfl⟩ := hm9
              refine ⟨hm.e (fun a j ha => (q6 a j (by omega) (by omega) (by omega)).trans (p6 a j (by omega) (by omega) (by omega))), fun a j ha => (q6 a j (by omega) (by omega) (by omega)).trans (p6 a j (by omega) (by omega) (by omega)), ?_⟩
              unfold sp_agree
              rw [if_neg (by omega), if_neg (by omega), Int.toNat_natCast, Int.toNat_natCast, if_neg (by omega), if_neg (by omega), v2, w2, v3, w3]
            · refine z_bipush X dX7_agree_80 (by decide) ?_
              refine z_iload X dX7_agree_82 rfl ?_
              refine z_isub X dX7_agree_84 ?_
              refine z_ireturn (st := []) X rfl hQ dX7_agree_85 ⟨rfl, _, rfl, ?_⟩
              unfold sp_agree
              rw [if_neg (by omega), if_neg (by omega), Int.toNat_natCast, Int.toNat_natCast, ← hr9, if_neg (by omega), ← hr8, if_pos (by omega)]
              exact ⟨hm, fun _ _ _ => rfl, rfl⟩
        · refine z_bipush X dX7_agree_43 (by decide) ?_
          refine z_ireturn (st := []) X rfl hQ dX7_agree_45 ⟨rfl, _, rfl, ?_⟩
          unfold sp_agree
          rw [if_neg (by omega), if_pos (by omega)]
          exact ⟨hm, fun _ _ _ => rfl, rfl⟩

/-! ConstantMill: grind, more, join -/
theorem zff_bd (c : Nat → Nat → Int) (u v : Int) (st k n : Nat) : zff c u v st k n = -6 ∨ ((k : Int) ≤ zff c u v st k n ∧ zff c u v st k n < (k : Int) + (n : Int)) := by
  rcases zff_range (c := c) (u := u) (v := v) (start := st) n k with h | ⟨j, h1, h2, h3⟩
  · exact Or.inl h
  · exact Or.inr (by omega)
theorem c_X7_grind (G : zG) {A : zA} {m : zM} {b : Nat} {σ : zSt} {d s i j : Int} (hA : zmilA A b) (hm : zCR b m σ) (ho : zStok σ) (hd : zi32 d) (hs : zi32 s) (hi : zi32 i) (hj : zi32 j) : zMet G k_X7_grind [vr b, vi d, vi s, vi i, vi j] A m (zpi A (fun r m' => zCR b m' (sp_grind σ d s i j).2 ∧ zmo b m m' ∧ r = (sp_grind σ d s i j).1)) := by
  obtain ⟨⟨hB, r0, r1, r2, r3, r4, r5, r6, r7, r8⟩, ⟨a1, a2, a3⟩, ⟨gG, gE, gP, gF, gT, gU⟩, hS, hD, hC⟩ := id hA
  have gG1 := gG.1
  have out : (¬ zin d 0 7 ∨ ¬ zin s 0 5) → zCR b m (sp_grind σ d s i j).2 ∧ zmo b m m ∧ -1 = (sp_grind σ d s i j).1 := fun h => by
    unfold sp_grind
    rw [if_pos h]
    exact ⟨hm, fun _ _ _ => rfl, rfl⟩
  refine zMet.of RX7 rfl (by decide +kernel) (Nat.le_of_ble_eq_true rfl) [some (vr b), some (vi d), some (vi s), some (vi i), some (vi j), none, none, none] rfl (fun E hG X hQ hNm => ?_)
  subst hG
  refine z_aload_n X dX7_grind_0 rfl ?_
  refine z_iload_n X dX7_grind_1 rfl ?_
  refine z_callVr X (As := [_]) dX7_grind_2 m_X7_drawerAt i_X7_drawerAt l_X7_98 (c_X7_drawerAt (zg E) hA hd) (by first | assumption | exact zbigA.o (by assumption)) rfl rfl rfl (Nat.le_of_ble_eq_true rfl) ⟨Nat.le_of_ble_eq_true rfl, Nat.le_of_ble_eq_true rfl⟩ ⟨Nat.le_of_ble_eq_true rfl, Nat.le_of_ble_eq_true rfl⟩ ⟨rfl, rfl⟩ (fun f m1 hm1 => ?_)
  rcases f with _ | f
  · obtain ⟨rfl, hf⟩ := hm1
    refine z_astoreN X dX7_grind_5 [_, _, _, _, _, _, _, _] (by decide) rfl ?_
    refine z_aload_n X dX7_grind_7 rfl ?_
    refine z_iload_n X dX7_grind_8 rfl ?_
    refine z_callVr X (As := [_]) dX7_grind_9 m_X7_sumAt i_X7_sumAt l_X7_61 (c_X7_sumAt (zg E) hA hs) (by first | assumption | exact zbigA.o (by assumption)) rfl rfl rfl (Nat.le_of_ble_eq_true rfl) ⟨Nat.le_of_ble_eq_true rfl, Nat.le_of_ble_eq_true rfl⟩ ⟨Nat.le_of_ble_eq_true rfl, Nat.le_of_ble_eq_true rfl⟩ ⟨rfl, rfl⟩ (fun g m1 hm2 => ?_)
    rcases g with _ | g
    · obtain ⟨rfl, hg⟩ := hm2
      refine z_astoreN X dX7_grind_12 [_, _, _, _, _, _, _, _] (by decide) rfl ?_
      refine z_aloadN X dX7_grind_14 rfl ?_
      refine z_ifnullN X dX7_grind_16 24 (by decide) ?_
      refine z_iconst X dX7_grind_24 ?_
      refine z_ireturn (st := []) X rfl hQ dX7_grind_25 ⟨rfl, _, rfl, ?_⟩
      exact out (Or.inl hf.no)
    · obtain ⟨rfl, hg⟩ := hm2
      refine z_astore X dX7_grind_12 [_, _, _, _, _, _, _, _] (by decide) rfl ?_
      refine z_aloadN X dX7_grind_14 rfl ?_
      refine z_ifnullN X dX7_grind_16 24 (by decide) ?_
      refine z_iconst X dX7_grind_24 ?_
      refine z_ireturn (st := []) X rfl hQ dX7_grind_25 ⟨rfl, _, rfl, ?_⟩
      exact out (Or.inl hf.no)
  · obtain ⟨rfl, hf⟩ := hm1
    refine z_astore X dX7_grind_5 [_, _, _, _, _, _, _, _] (by decide) rfl ?_
    refine z_aload_n X dX7_grind_7 rfl ?_
    refine z_iload_n X dX7_grind_8 rfl ?_
    refine z_callVr X (As := [_]) dX7_grind_9 m_X7_sumAt i_X7_sumAt l_X7_61 (c_X7_sumAt (zg E) hA hs) (by first | assumption | exact zbigA.o (by assumption)) rfl rfl rfl (Nat.le_of_ble_eq_true rfl) ⟨Nat.le_of_ble_eq_true rfl, Nat.le_of_ble_eq_true rfl⟩ ⟨Nat.le_of_ble_eq_true rfl, Nat.le_of_ble_eq_true rfl⟩ ⟨rfl, rfl⟩ (fun g m1 hm2 => ?_)
    rcases g with _ | g
    · obtain ⟨rfl, hg⟩ := hm2
      refine z_astoreN X dX7_grind_12 [_, _, _, _, _, _, _, _] (by decide) rfl ?_
      refine z_aload X dX7_grind_14 rfl ?_
      refine z_ifnull X dX7_grind_16 ?_
      refine z_aloadN X dX7_grind_19 rfl ?_
      refine z_ifnonnullN X dX7_grind_21 ?_
      refine z_iconst X dX7_grind_24 ?_
      refine z_ireturn (st := []) X rfl hQ dX7_grind_25 ⟨rfl, _, rfl, ?_⟩
      exact out (Or.inr hg.no)
    · obtain ⟨rfl, hg⟩ := hm2
      obtain ⟨k, hk, rfl, rfl⟩ := hf.yes
      obtain ⟨t, ht, rfl, rfl⟩ := hg.yes
      have hs1 := (hS t ht).2
      have hs2 := hs1.1
      have hd1 := (hD k hk).2
      have hd2 := hd1.1
      unfold zi32 at hi hj
      refine z_astore X dX7_grind_12 [_, _, _, _, _, _, _, _] (by decide) rfl ?_
      refine z_aload X dX7_grind_14 rfl ?_
      refine z_ifnull X dX7_grind_16 ?_
      refine z_aload X dX7_grind_19 rfl ?_
      refine z_ifnonnull X dX7_grind_21 26 (by decide) ?_
      refine z_iload_n X dX7_grind_26 rfl ?_
      refine z_if_lt X dX7_grind_27 43 (by decide) (by omega) (fun h27 => ?_) (fun h27 => ?_)
      · refine z_bipush X dX7_grind_43 (by decide) ?_
        refine z_ireturn (st := []) X rfl hQ dX7_grind_45 ⟨rfl, _, rfl, ?_⟩
        unfold sp_grind
        rw [if_neg (by omega), if_pos (by omega)]
        exact ⟨hm, fun _ _ _ => rfl, rfl⟩
      · refine z_iload X dX7_grind_30 rfl ?_
        refine z_iload_n X dX7_grind_32 rfl ?_
        refine z_icmp_lt X dX7_grind_33 43 (by decide) (by omega) (by omega) (fun h33 => ?_) (fun h33 => ?_)
        · refine z_bipush X dX7_grind_43 (by decide) ?_
          refine z_ireturn (st := []) X rfl hQ dX7_grind_45 ⟨rfl, _, rfl, ?_⟩
          unfold sp_grind
          rw [if_neg (by omega), if_pos (by omega)]
          exact ⟨hm, fun _ _ _ => rfl, rfl⟩
        · refine z_iload X dX7_grind_36 rfl ?_
          refine z_bipush X dX7_grind_38 (by decide) ?_
          refine z_icmp_le X dX7_grind_40 46 (by decide) (by omega) (by omega) (fun h40 => ?_) (fun h40 => ?_)
          · refine z_aload X dX7_grind_46 rfl ?_
            refine z_iload_n X dX7_grind_48 rfl ?_
            refine z_iload_n X dX7_grind_49 rfl ?_
            refine z_iload X dX7_grind_50 rfl ?_
            refine z_callVi X (As := [_, _, _]) dX7_grind_52 m_X6_firstFall i_X6_firstFall l_X7_94 (c_X6_firstFall (zg E) hs1 (hm.1 t ht) (ho.1 t ht).1 (ho.1 t ht).2 i.toNat i.toNat j.toNat (by omega) (by omega) (by omega) (by omega) (by omega) (by omega)) (by first | assumption | exact zbigA.o (by assumption)) rfl rfl rfl (Nat.le_of_ble_eq_true rfl) ⟨Nat.le_of_ble_eq_true rfl, Nat.le_of_ble_eq_true rfl⟩ ⟨Nat.le_of_ble_eq_true rfl, Nat.le_of_ble_eq_true rfl⟩ ⟨rfl, rfl⟩ (fun r m1 hm3 => ?_)
            obtain ⟨rfl, hr⟩ := hm3
            have hR := zff_bd (sC σ t) (sU σ t) (sV σ t) i.toNat i.toNat (j.toNat - i.toNat)
            rw [← hr] at hR
            refine z_istore X dX7_grind_55 (fun y => [_, _, _, _, _, _, _, some (vi y)]) (by decide) (fun _ => rfl) (fun x7_55 hx7_55 => ?_)
            subst hx7_55
            refine z_iload X dX7_grind_57 rfl ?_
            refine z_bipush X dX7_grind_59 (by decide) ?_
            refine z_icmp_eq X dX7_grind_61 70 (by decide) (by omega) (by omega) (fun h61 => ?_) (fun h61 => ?_)
            · refine z_aload X dX7_grind_70 rfl ?_
              refine z_iload_n X dX7_grind_72 rfl ?_
              refine z_iload_n X dX7_grind_73 rfl ?_
              refine z_callVv X (As := [_, _]) dX7_grind_74 m_X5_open i_X5_open l_X7_102 (c_X5_open (zg E) hd1) (by first | assumption | exact zbigA.o (by assumption)) rfl rfl rfl (Nat.le_of_ble_eq_true rfl) ⟨Nat.le_of_ble_eq_true rfl, Nat.le_of_ble_eq_true rfl⟩ ⟨Nat.le_of_ble_eq_true rfl, Nat.le_of_ble_eq_true rfl⟩ ⟨rfl, rfl⟩ (fun m1 hm4 => ?_)
              obtain ⟨p1, ⟨p2, p3, p4, p5⟩, p6⟩ := hm4
              have hsm : zsumM m1 (b + 37 + 4 * t) (sC σ t) (sU σ t) (sV σ t) := (hm.1 t ht).e (fun a j _ _ => p6 a j (by omega))
              refine z_aload_n X dX7_grind_77 rfl ?_
              refine z_getR X dX7_grind_78 f_X7_30 rfl (by first | assumption | exact zbigA.o (by assumption)) (by assumption) ?_
              refine z_aload X dX7_grind_81 rfl ?_
              refine z_aload X dX7_grind_83 rfl ?_
              refine z_iload X dX7_grind_85 rfl ?_
              refine z_callVv X (As := [_, _, _]) dX7_grind_87 m_X4_goOn i_X4_goOn l_X7_106 (c_X4_goOn (zg E) (n0 := 0) (k0 := i.toNat) (e := j.toNat) (by omega) hd1 gG hs1 (ho.1 t ht).1 (by omega) (by omega) (by omega) zok_0 (by omega) (by omega) (by omega) p1 hsm (by omega)) (by first | assumption | exact zbigA.o (by assumption)) rfl rfl rfl (Nat.le_of_ble_eq_true rfl) ⟨Nat.le_of_ble_eq_true rfl, Nat.le_of_ble_eq_true rfl⟩ ⟨Nat.le_of_ble_eq_true rfl, Nat.le_of_ble_eq_true rfl⟩ ⟨rfl, rfl⟩ (fun m2 hm5 => ?_)
              obtain ⟨q1, q2, q3, q4, -⟩ := hm5
              refine z_aload X dX7_grind_90 rfl ?_
              refine z_callVi X (As := []) dX7_grind_92 m_X5_terms i_X5_terms l_X7_110 (c_X5_terms (zg E) hd1) (by first | assumption | exact zbigA.o (by assumption)) rfl rfl rfl (Nat.le_of_ble_eq_true rfl) ⟨Nat.le_of_ble_eq_true rfl, Nat.le_of_ble_eq_true rfl⟩ ⟨Nat.le_of_ble_eq_true rfl, Nat.le_of_ble_eq_true rfl⟩ ⟨rfl, rfl⟩ (fun r5 m3 hm6 => ?_)
              refine z_ireturn (st := []) X rfl hQ dX7_grind_95 ⟨rfl, _, rfl, ?_⟩
              obtain ⟨rfl, rfl⟩ := hm6
              have q36 := q3 6 (by omega)
              have q35 := q3 5 (by omega)
              have q34 := q3 4 (by omega)
              unfold sp_grind
              rw [if_neg (by omega), if_neg (by omega), Int.toNat_natCast, Int.toNat_natCast]
              unfold zfl
              rw [← hr, if_neg (by omega)]
              refine ⟨hm.dr (x := some _) hk ⟨by omega, by omega, ?_, by omega, q1⟩ (by omega) (fun a j h1 h2 => (q4 a j (by omega) (by omega)).trans (p6 a j (by omega))), fun a j ha => (q4 a j (by omega) (by omega)).trans (p6 a j (by omega)), by show _ = j - i; omega⟩
              show _ = ((i.toNat : Nat) : Int)
              omega
            · refine z_bipush X dX7_grind_64 (by decide) ?_
              refine z_iload X dX7_grind_66 rfl ?_
              refine z_isub X dX7_grind_68 ?_
              refine z_ireturn (st := []) X rfl hQ dX7_grind_69 ⟨rfl, _, rfl, ?_⟩
              unfold sp_grind
              rw [if_neg (by omega), if_neg (by omega), Int.toNat_natCast, Int.toNat_natCast]
              unfold zfl
              rw [← hr, if_pos (by omega)]
              exact ⟨hm, fun _ _ _ => rfl, rfl⟩
          · refine z_bipush X dX7_grind_43 (by decide) ?_
            refine z_ireturn (st := []) X rfl hQ dX7_grind_45 ⟨rfl, _, rfl, ?_⟩
            unfold sp_grind
            rw [if_neg (by omega), if_pos (by omega)]
            exact ⟨hm, fun _ _ _ => rfl, rfl⟩
theorem c_X7_more (G : zG) {A : zA} {m : zM} {b : Nat} {σ : zSt} {d n : Int} (hA : zmilA A b) (hm : zCR b m σ) (ho : zStok σ) (hd : zi32 d) (hn : zi32 n) : zMet G k_X7_more [vr b, vi d, vi n] A m (zpi A (fun r m' => zCR b m' (sp_more σ d n).2 ∧ zmo b m m' ∧ r = (sp_more σ d n).1)) := by
  obtain ⟨⟨hB, r0, r1, r2, r3, r4, r5, r6, r7, r8⟩, ⟨a1, a2, a3⟩, ⟨gG, gE, gP, gF, gT, gU⟩, hS, hD, hC⟩ := id hA
  have gG1 := gG.1
  refine zMet.of RX7 rfl (by decide +kernel) (Nat.le_of_ble_eq_true rfl) [some (vr b), some (vi d), some (vi n), none, none, none, none] rfl (fun E hG X hQ hNm => ?_)
  subst hG
  refine z_aload_n X dX7_more_0 rfl ?_
  refine z_iload_n X dX7_more_1 rfl ?_
  refine z_callVr X (As := [_]) dX7_more_2 m_X7_drawerAt i_X7_drawerAt l_X7_98 (c_X7_drawerAt (zg E) hA hd) (by first | assumption | exact zbigA.o (by assumption)) rfl rfl rfl (Nat.le_of_ble_eq_true rfl) ⟨Nat.le_of_ble_eq_true rfl, Nat.le_of_ble_eq_true rfl⟩ ⟨Nat.le_of_ble_eq_true rfl, Nat.le_of_ble_eq_true rfl⟩ ⟨rfl, rfl⟩ (fun f m1 hm1 => ?_)
  rcases f with _ | f
  · obtain ⟨rfl, hf⟩ := hm1
    refine z_astore_nN X dX7_more_5 [_, _, _, _, _, _, _] (by decide) rfl ?_
    refine z_aload_nN X dX7_more_6 rfl ?_
    refine z_ifnonnullN X dX7_more_7 ?_
    refine z_iconst X dX7_more_10 ?_
    refine z_ireturn (st := []) X rfl hQ dX7_more_11 ⟨rfl, _, rfl, ?_⟩
    have h := hf.no
    unfold sp_more
    rw [if_pos (by omega)]
    exact ⟨hm, fun _ _ _ => rfl, rfl⟩
  · obtain ⟨rfl, hf⟩ := hm1
    obtain ⟨k, hk, rfl, rfl⟩ := hf.yes
    have hd1 := (hD k hk).2
    have hd2 := hd1.1
    obtain ⟨h5, hdr⟩ := hm.2.1 k hk
    have h4 := hdr.h4
    have h7 : m (b + 61 + 9 * k) 4 = 1 → 0 ≤ m (b + 61 + 9 * k) 7 ∧ m (b + 61 + 9 * k) 7 ≤ 100 := fun h => by
      rcases h4 with ⟨g, _⟩ | ⟨_, y, e, e5, e6, e7, e8⟩
      · omega
      · obtain ⟨o1, o2, o3, o4⟩ := ho.2.1 k y hk e
        omega
    unfold zi32 at hn
    have out : (n < 0 ∨ 100 < n ∨ (m (b + 61 + 9 * k) 4 = 1 ∧ 100 < m (b + 61 + 9 * k) 7 + n)) → zCR b m (sp_more σ (k : Int) n).2 ∧ zmo b m m ∧ -2 = (sp_more σ (k : Int) n).1 := fun h => by
      unfold sp_more
      rw [if_neg (by omega)]
      by_cases h0 : zin n 0 100
      · rw [if_neg (by omega), Int.toNat_natCast]
        rcases h4 with ⟨g, _⟩ | ⟨_, y, e, e5, e6, e7, e8⟩
        · omega
        · rw [e]
          simp only []
          rw [if_pos (by omega)]
          exact ⟨hm, fun _ _ _ => rfl, rfl⟩
      · rw [if_pos h0]
        exact ⟨hm, fun _ _ _ => rfl, rfl⟩
    refine z_astore_n X dX7_more_5 [_, _, _, _, _, _, _] (by decide) rfl ?_
    refine z_aload_n X dX7_more_6 rfl ?_
    refine z_ifnonnull X dX7_more_7 12 (by decide) ?_
    refine z_iload_n X dX7_more_12 rfl ?_
    refine z_if_lt X dX7_more_13 40 (by decide) (by omega) (fun h13 => ?_) (fun h13 => ?_)
    · refine z_bipush X dX7_more_40 (by decide) ?_
      refine z_ireturn (st := []) X rfl hQ dX7_more_42 ⟨rfl, _, rfl, ?_⟩
      exact out (by omega)
    · refine z_iload_n X dX7_more_16 rfl ?_
      refine z_bipush X dX7_more_17 (by decide) ?_
      refine z_icmp_gt X dX7_more_19 40 (by decide) (by omega) (by omega) (fun h19 => ?_) (fun h19 => ?_)
      · refine z_bipush X dX7_more_40 (by decide) ?_
        refine z_ireturn (st := []) X rfl hQ dX7_more_42 ⟨rfl, _, rfl, ?_⟩
        exact out (by omega)
      · refine z_aload_n X dX7_more_22 rfl ?_
        refine z_getI X dX7_more_23 f_X7_114 rfl (by first | assumption | exact zbigA.o (by assumption)) ?_
        refine z_if_eq X dX7_more_26 43 (by decide) (by omega) (fun h26 => ?_) (fun h26 => ?_)
        · refine z_aload_n X dX7_more_43 rfl ?_
          refine z_aload_n X dX7_more_44 rfl ?_
          refine z_getI X dX7_more_45 f_X7_121 rfl (by first | assumption | exact zbigA.o (by assumption)) ?_
          refine z_callVr X (As := [_]) dX7_more_48 m_X7_sumAt i_X7_sumAt l_X7_61 (c_X7_sumAt (zg E) hA (by unfold zi32; omega)) (by first | assumption | exact zbigA.o (by assumption)) rfl rfl rfl (Nat.le_of_ble_eq_true rfl) ⟨Nat.le_of_ble_eq_true rfl, Nat.le_of_ble_eq_true rfl⟩ ⟨Nat.le_of_ble_eq_true rfl, Nat.le_of_ble_eq_true rfl⟩ ⟨rfl, rfl⟩ (fun g m1 hm2 => ?_)
          rcases g with _ | g
          · obtain ⟨rfl, hg⟩ := hm2
            refine z_astoreN X dX7_more_51 [_, _, _, _, _, _, _] (by decide) rfl ?_
            refine z_aload_n X dX7_more_53 rfl ?_
            refine z_getI X dX7_more_54 f_X7_114 rfl (by first | assumption | exact zbigA.o (by assumption)) ?_
            refine z_if_eq X dX7_more_57 65 (by decide) (by omega) (fun h57 => ?_) (fun h57 => ?_)
            · refine z_bipush X dX7_more_65 (by decide) ?_
              refine z_ireturn (st := []) X rfl hQ dX7_more_67 ⟨rfl, _, rfl, ?_⟩
              rcases h4 with ⟨_, e⟩ | ⟨h, _⟩
              · unfold sp_more
                rw [if_neg (by omega), if_neg (by omega), Int.toNat_natCast, e]
                exact ⟨hm, fun _ _ _ => rfl, rfl⟩
              · omega
            · exact absurd h26 h57
          · obtain ⟨rfl, hg⟩ := hm2
            refine z_astore X dX7_more_51 [_, _, _, _, _, _, _] (by decide) rfl ?_
            refine z_aload_n X dX7_more_53 rfl ?_
            refine z_getI X dX7_more_54 f_X7_114 rfl (by first | assumption | exact zbigA.o (by assumption)) ?_
            refine z_if_eq X dX7_more_57 65 (by decide) (by omega) (fun h57 => ?_) (fun h57 => ?_)
            · refine z_bipush X dX7_more_65 (by decide) ?_
              refine z_ireturn (st := []) X rfl hQ dX7_more_67 ⟨rfl, _, rfl, ?_⟩
              rcases h4 with ⟨_, e⟩ | ⟨h, _⟩
              · unfold sp_more
                rw [if_neg (by omega), if_neg (by omega), Int.toNat_natCast, e]
                exact ⟨hm, fun _ _ _ => rfl, rfl⟩
              · omega
            · exact absurd h26 h57
        · refine z_aload_n X dX7_more_29 rfl ?_
          refine z_getI X dX7_more_30 f_X7_118 rfl (by first | assumption | exact zbigA.o (by assumption)) ?_
          refine z_iload_n X dX7_more_33 rfl ?_
          refine z_iadd X dX7_more_34 ?_
          refine z_bipush X dX7_more_35 (by decide) ?_
          refine z_icmp_le X dX7_more_37 43 (by decide) (by omega) (by omega) (fun h37 => ?_) (fun h37 => ?_)
          · refine z_aload_n X dX7_more_43 rfl ?_
            refine z_aload_n X dX7_more_44 rfl ?_
            refine z_getI X dX7_more_45 f_X7_121 rfl (by first | assumption | exact zbigA.o (by assumption)) ?_
            refine z_callVr X (As := [_]) dX7_more_48 m_X7_sumAt i_X7_sumAt l_X7_61 (c_X7_sumAt (zg E) hA (by unfold zi32; omega)) (by first | assumption | exact zbigA.o (by assumption)) rfl rfl rfl (Nat.le_of_ble_eq_true rfl) ⟨Nat.le_of_ble_eq_true rfl, Nat.le_of_ble_eq_true rfl⟩ ⟨Nat.le_of_ble_eq_true rfl, Nat.le_of_ble_eq_true rfl⟩ ⟨rfl, rfl⟩ (fun g m1 hm2 => ?_)
            rcases g with _ | g
            · obtain ⟨rfl, hg⟩ := hm2
              refine z_astoreN X dX7_more_51 [_, _, _, _, _, _, _] (by decide) rfl ?_
              refine z_aload_n X dX7_more_53 rfl ?_
              refine z_getI X dX7_more_54 f_X7_114 rfl (by first | assumption | exact zbigA.o (by assumption)) ?_
              refine z_if_eq X dX7_more_57 65 (by decide) (by omega) (fun h57 => ?_) (fun h57 => ?_)
              · exact absurd h57 h26
              · refine z_aloadN X dX7_more_60 rfl ?_
                refine z_ifnonnullN X dX7_more_62 ?_
                refine z_bipush X dX7_more_65 (by decide) ?_
                refine z_ireturn (st := []) X rfl hQ dX7_more_67 ⟨rfl, _, rfl, ?_⟩
                exact absurd h5 (by have := hg.no; omega)
            · obtain ⟨rfl, hg⟩ := hm2
              refine z_astore X dX7_more_51 [_, _, _, _, _, _, _] (by decide) rfl ?_
              refine z_aload_n X dX7_more_53 rfl ?_
              refine z_getI X dX7_more_54 f_X7_114 rfl (by first | assumption | exact zbigA.o (by assumption)) ?_
              refine z_if_eq X dX7_more_57 65 (by decide) (by omega) (fun h57 => ?_) (fun h57 => ?_)
              · exact absurd h57 h26
              · refine z_aload X dX7_more_60 rfl ?_
                refine z_ifnonnull X dX7_more_62 68 (by decide) ?_
                obtain ⟨t, ht, ht5, rfl⟩ := hg.yes
                have hs1 := (hS t ht).2
                have hs2 := hs1.1
                rcases h4 with ⟨h4, _⟩ | ⟨h4, y, e, e5, e6, e7, e8⟩
                · exact absurd h4 h57
                obtain ⟨o1, o2, o3, o4⟩ := ho.2.1 k y hk e
                obtain rfl : t = y.1 := by omega
                refine z_aload_n X dX7_more_68 rfl ?_
                refine z_getI X dX7_more_69 f_X7_118 rfl (by first | assumption | exact zbigA.o (by assumption)) ?_
                refine z_iload_n X dX7_more_72 rfl ?_
                refine z_iadd X dX7_more_73 ?_
                refine z_istore X dX7_more_74 (fun y => [_, _, _, _, _, some (vi y), _]) (by decide) (fun _ => rfl) (fun x5 hx5 => ?_)
                obtain rfl : x5 = ((y.2.2.1 + n.toNat : Nat) : Int) := by omega
                refine z_aload X dX7_more_76 rfl ?_
                refine z_aload_n X dX7_more_78 rfl ?_
                refine z_getI X dX7_more_79 f_X7_124 rfl (by first | assumption | exact zbigA.o (by assumption)) ?_
                refine z_aload_n X dX7_more_82 rfl ?_
                refine z_getI X dX7_more_83 f_X7_118 rfl (by first | assumption | exact zbigA.o (by assumption)) ?_
                refine z_iload X dX7_more_86 rfl ?_
                refine z_callVi X (As := [_, _, _]) dX7_more_88 m_X6_firstFall i_X6_firstFall l_X7_94 (c_X6_firstFall (zg E) hs1 (hm.1 _ ht) (ho.1 _ ht).1 (ho.1 _ ht).2 y.2.1 y.2.2.1 (y.2.2.1 + n.toNat) e6 e7 (by omega) (by omega) (by omega) (by omega)) (by first | assumption | exact zbigA.o (by assumption)) rfl rfl rfl (Nat.le_of_ble_eq_true rfl) ⟨Nat.le_of_ble_eq_true rfl, Nat.le_of_ble_eq_true rfl⟩ ⟨Nat.le_of_ble_eq_true rfl, Nat.le_of_ble_eq_true rfl⟩ ⟨rfl, rfl⟩ (fun r m1 hm3 => ?_)
                obtain ⟨rfl, hr⟩ := hm3
                rw [Nat.add_sub_cancel_left] at hr
                have hR := zff_bd (sC σ y.1) (sU σ y.1) (sV σ y.1) y.2.1 y.2.2.1 n.toNat
                rw [← hr] at hR
                have hr' : zfl σ y.1 y.2.1 y.2.2.1 n.toNat = r := hr.symm
                have sp : sp_more σ (k : Int) n = if 100 < (y.2.2.1 : Int) + n then (-2, σ) else if r = -6 then ((y.2.2.1 : Int) + n, wD σ (zup (sD σ) k (some (y.1, y.2.1, y.2.2.1 + n.toNat, zgo (sC σ y.1) y.2.2.1 y.2.2.2 n.toNat)))) else (-100 - r, wD σ (zup (sD σ) k (some (y.1, y.2.1, r.toNat, zgo (sC σ y.1) y.2.2.1 y.2.2.2 (r.toNat - y.2.2.1))))) := by
                  unfold sp_more
                  rw [if_neg (by omega), if_neg (by omega), Int.toNat_natCast, e]
                  simp only []
                  rw [hr']
                rw [if_neg (by omega)] at sp
                refine z_istore X dX7_more_91 (fun y => [_, _, _, _, _, _, some (vi y)]) (by decide) (fun _ => rfl) (fun x6 hx6 => ?_)
                obtain rfl : x6 = r := by omega
                refine z_aload_n X dX7_more_93 rfl ?_
                refine z_getR X dX7_more_94 f_X7_30 rfl (by first | assumption | exact zbigA.o (by assumption)) (by assumption) ?_
                refine z_aload_n X dX7_more_97 rfl ?_
                refine z_aload X dX7_more_98 rfl ?_
                refine z_iload X dX7_more_100 rfl ?_
                refine z_bipush X dX7_more_102 (by decide) ?_
                refine z_icmp_ne X dX7_more_104 112 (by decide) (by omega) (by omega) (fun h104 => ?_) (fun h104 => ?_)
                · refine z_iload X dX7_more_112 rfl ?_
                  refine z_callVv X (As := [_, _, _]) dX7_more_114 m_X4_goOn i_X4_goOn l_X7_106 (c_X4_goOn (zg E) (n0 := y.2.2.1 - y.2.1) (k0 := y.2.2.1) (e := x6.toNat) (by omega) hd1 gG hs1 (ho.1 _ ht).1 (by omega) (by omega) (by omega) o4 (by omega) (by omega) (by omega) e8 (hm.1 _ ht) e7) (by first | assumption | exact zbigA.o (by assumption)) rfl rfl rfl (Nat.le_of_ble_eq_true rfl) ⟨Nat.le_of_ble_eq_true rfl, Nat.le_of_ble_eq_true rfl⟩ ⟨Nat.le_of_ble_eq_true rfl, Nat.le_of_ble_eq_true rfl⟩ ⟨rfl, rfl⟩ (fun m2 hm5 => ?_)
                  obtain ⟨q1, q2, q3, q4, -⟩ := hm5
                  have q36 := q3 6 (by omega)
                  have q35 := q3 5 (by omega)
                  have q34 := q3 4 (by omega)
                  refine z_iload X dX7_more_117 rfl ?_
                  refine z_bipush X dX7_more_119 (by decide) ?_
                  refine z_icmp_ne X dX7_more_121 131 (by decide) (by omega) (by omega) (fun h121 => ?_) (fun h121 => ?_)
                  · refine z_bipush X dX7_more_131 (by decide) ?_
                    refine z_iload X dX7_more_133 rfl ?_
                    refine z_isub X dX7_more_135 ?_
                    refine z_ireturn (st := []) X rfl hQ dX7_more_136 ⟨rfl, _, rfl, ?_⟩
                    rw [sp, if_neg (by omega)]
                    exact ⟨hm.dr (x := some _) hk ⟨q34.trans h4, q35.trans e5, q36.trans e6, q2, q1⟩ (by omega) (fun a j h1 h2 => q4 a j (by omega) (by omega)), fun a j ha => q4 a j (by omega) (by omega), rfl⟩
                  · exact absurd h104 h121
                · refine z_iload X dX7_more_107 rfl ?_
                  refine z_goto X dX7_more_109 114 (by decide) ?_
                  refine z_callVv X (As := [_, _, _]) dX7_more_114 m_X4_goOn i_X4_goOn l_X7_106 (c_X4_goOn (zg E) (n0 := y.2.2.1 - y.2.1) (k0 := y.2.2.1) (e := y.2.2.1 + n.toNat) rfl hd1 gG hs1 (ho.1 _ ht).1 (by omega) (by omega) (by omega) o4 (by omega) (by omega) (by omega) e8 (hm.1 _ ht) e7) (by first | assumption | exact zbigA.o (by assumption)) rfl rfl rfl (Nat.le_of_ble_eq_true rfl) ⟨Nat.le_of_ble_eq_true rfl, Nat.le_of_ble_eq_true rfl⟩ ⟨Nat.le_of_ble_eq_true rfl, Nat.le_of_ble_eq_true rfl⟩ ⟨rfl, rfl⟩ (fun m2 hm5 => ?_)
                  obtain ⟨q1, q2, q3, q4, -⟩ := hm5
                  have q36 := q3 6 (by omega)
                  have q35 := q3 5 (by omega)
                  have q34 := q3 4 (by omega)
                  refine z_iload X dX7_more_117 rfl ?_
                  refine z_bipush X dX7_more_119 (by decide) ?_
                  refine z_icmp_ne X dX7_more_121 131 (by decide) (by omega) (by omega) (fun h121 => ?_) (fun h121 => ?_)
                  · exact absurd h121 h104
                  · refine z_aload_n X dX7_more_124 rfl ?_
                    refine z_getI X dX7_more_125 f_X7_118 rfl (by first | assumption | exact zbigA.o (by assumption)) ?_
                    refine z_goto X dX7_more_128 136 (by decide) ?_
                    refine z_ireturn (st := []) X rfl hQ dX7_more_136 ⟨rfl, _, rfl, ?_⟩
                    rw [sp, if_pos (by omega)]
                    rw [Nat.add_sub_cancel_left] at q1
                    exact ⟨hm.dr (x := some _) hk ⟨q34.trans h4, q35.trans e5, q36.trans e6, q2, q1⟩ (by omega) (fun a j h1 h2 => q4 a j (by omega) (by omega)), fun a j ha => q4 a j (by omega) (by omega), by show _ = _ + n; omega⟩
          · refine z_bipush X dX7_more_40 (by decide) ?_
            refine z_ireturn (st := []) X rfl hQ dX7_more_42 ⟨rfl, _, rfl, ?_⟩
            exact out (by omega)
theorem zdrM.b4 {m : zM} {d : Nat} {x : Option zDr} (h : zdrM m d x) : m d 4 = 0 ∨ m d 4 = 1 := by
  rcases h.h4 with ⟨h, _⟩ | ⟨h, _⟩
  · exact Or.inl h
  · exact Or.inr h
theorem c_X7_join (G : zG) {A : zA} {m : zM} {b : Nat} {σ : zSt} {d e f : Int} (hA : zmilA A b) (hm : zCR b m σ) (ho : zStok σ) (hd : zi32 d) (he : zi32 e) (hf : zi32 f) : zMet G k_X7_join [vr b, vi d, vi e, vi f] A m (zpi A (fun r m' => zCR b m' (sp_join σ d e f).2 ∧ zmo b m m' ∧ r = (sp_join σ d e f).1)) := by
  obtain ⟨⟨hB, r0, r1, r2, r3, r4, r5, r6, r7, r8⟩, ⟨a1, a2, a3⟩, ⟨gG, gE, gP, gF, gT, gU⟩, hS, hD, hC⟩ := id hA
  have gG1 := gG.1
  have out : (¬ zin d 0 7 ∨ ¬ zin e 0 7 ∨ ¬ zin f 0 7) → zCR b m (sp_join σ d e f).2 ∧ zmo b m m ∧ -1 = (sp_join σ d e f).1 := fun h => by
    unfold sp_join
    rw [if_pos h]
    exact ⟨hm, fun _ _ _ => rfl, rfl⟩
  refine zMet.of RX7 rfl (by decide +kernel) (Nat.le_of_ble_eq_true rfl) [some (vr b), some (vi d), some (vi e), some (vi f), none, none, none] rfl (fun E hG X hQ hNm => ?_)
  subst hG
  refine z_aload_n X dX7_join_0 rfl ?_
  refine z_iload_n X dX7_join_1 rfl ?_
  refine z_callVr X (As := [_]) dX7_join_2 m_X7_drawerAt i_X7_drawerAt l_X7_98 (c_X7_drawerAt (zg E) hA hd) (by first | assumption | exact zbigA.o (by assumption)) rfl rfl rfl (Nat.le_of_ble_eq_true rfl) ⟨Nat.le_of_ble_eq_true rfl, Nat.le_of_ble_eq_true rfl⟩ ⟨Nat.le_of_ble_eq_true rfl, Nat.le_of_ble_eq_true rfl⟩ ⟨rfl, rfl⟩ (fun x m1 hm1 => ?_)
  rcases x with _ | x
  · obtain ⟨rfl, hx⟩ := hm1
    refine z_astoreN X dX7_join_5 [_, _, _, _, _, _, _] (by decide) rfl ?_
    refine z_aload_n X dX7_join_7 rfl ?_
    refine z_iload_n X dX7_join_8 rfl ?_
    refine z_callVr X (As := [_]) dX7_join_9 m_X7_drawerAt i_X7_drawerAt l_X7_98 (c_X7_drawerAt (zg E) hA he) (by first | assumption | exact zbigA.o (by assumption)) rfl rfl rfl (Nat.le_of_ble_eq_true rfl) ⟨Nat.le_of_ble_eq_true rfl, Nat.le_of_ble_eq_true rfl⟩ ⟨Nat.le_of_ble_eq_true rfl, Nat.le_of_ble_eq_true rfl⟩ ⟨rfl, rfl⟩ (fun y m1 hm2 => ?_)
    rcases y with _ | y
    · obtain ⟨rfl, hy⟩ := hm2
      refine z_astoreN X dX7_join_12 [_, _, _, _, _, _, _] (by decide) rfl ?_
      refine z_aload_n X dX7_join_14 rfl ?_
      refine z_iload_n X dX7_join_15 rfl ?_
      refine z_callVr X (As := [_]) dX7_join_16 m_X7_drawerAt i_X7_drawerAt l_X7_98 (c_X7_drawerAt (zg E) hA hf) (by first | assumption | exact zbigA.o (by assumption)) rfl rfl rfl (Nat.le_of_ble_eq_true rfl) ⟨Nat.le_of_ble_eq_true rfl, Nat.le_of_ble_eq_true rfl⟩ ⟨Nat.le_of_ble_eq_true rfl, Nat.le_of_ble_eq_true rfl⟩ ⟨rfl, rfl⟩ (fun z m1 hm3 => ?_)
      rcases z with _ | z
      · obtain ⟨rfl, hz⟩ := hm3
        refine z_astoreN X dX7_join_19 [_, _, _, _, _, _, _] (by decide) rfl ?_
        refine z_aloadN X dX7_join_21 rfl ?_
        refine z_ifnullN X dX7_join_23 36 (by decide) ?_
        refine z_iconst X dX7_join_36 ?_
        refine z_ireturn (st := []) X rfl hQ dX7_join_37 ⟨rfl, _, rfl, ?_⟩
        exact out (by first | exact Or.inl hx.no | exact Or.inr (Or.inl hy.no) | exact Or.inr (Or.inr hz.no))
      · obtain ⟨rfl, hz⟩ := hm3
        refine z_astore X dX7_join_19 [_, _, _, _, _, _, _] (by decide) rfl ?_
        refine z_aloadN X dX7_join_21 rfl ?_
        refine z_ifnullN X dX7_join_23 36 (by decide) ?_
        refine z_iconst X dX7_join_36 ?_
        refine z_ireturn (st := []) X rfl hQ dX7_join_37 ⟨rfl, _, rfl, ?_⟩
        exact out (by first | exact Or.inl hx.no | exact Or.inr (Or.inl hy.no) | exact Or.inr (Or.inr hz.no))
    · obtain ⟨rfl, hy⟩ := hm2
      refine z_astore X dX7_join_12 [_, _, _, _, _, _, _] (by decide) rfl ?_
      refine z_aload_n X dX7_join_14 rfl ?_
      refine z_iload_n X dX7_join_15 rfl ?_
      refine z_callVr X (As := [_]) dX7_join_16 m_X7_drawerAt i_X7_drawerAt l_X7_98 (c_X7_drawerAt (zg E) hA hf) (by first | assumption | exact zbigA.o (by assumption)) rfl rfl rfl (Nat.le_of_ble_eq_true rfl) ⟨Nat.le_of_ble_eq_true rfl, Nat.le_of_ble_eq_true rfl⟩ ⟨Nat.le_of_ble_eq_true rfl, Nat.le_of_ble_eq_true rfl⟩ ⟨rfl, rfl⟩ (fun z m1 hm3 => ?_)
      rcases z with _ | z
      · obtain ⟨rfl, hz⟩ := hm3
        refine z_astoreN X dX7_join_19 [_, _, _, _, _, _, _] (by decide) rfl ?_
        refine z_aloadN X dX7_join_21 rfl ?_
        refine z_ifnullN X dX7_join_23 36 (by decide) ?_
        refine z_iconst X dX7_join_36 ?_
        refine z_ireturn (st := []) X rfl hQ dX7_join_37 ⟨rfl, _, rfl, ?_⟩
        exact out (by first | exact Or.inl hx.no | exact Or.inr (Or.inl hy.no) | exact Or.inr (Or.inr hz.no))
      · obtain ⟨rfl, hz⟩ := hm3
        refine z_astore X dX7_join_19 [_, _, _, _, _, _, _] (by decide) rfl ?_
        refine z_aloadN X dX7_join_21 rfl ?_
        refine z_ifnullN X dX7_join_23 36 (by decide) ?_
        refine z_iconst X dX7_join_36 ?_
        refine z_ireturn (st := []) X rfl hQ dX7_join_37 ⟨rfl, _, rfl, ?_⟩
        exact out (by first | exact Or.inl hx.no | exact Or.inr (Or.inl hy.no) | exact Or.inr (Or.inr hz.no))
  · obtain ⟨rfl, hx⟩ := hm1
    refine z_astore X dX7_join_5 [_, _, _, _, _, _, _] (by decide) rfl ?_
    refine z_aload_n X dX7_join_7 rfl ?_
    refine z_iload_n X dX7_join_8 rfl ?_
    refine z_callVr X (As := [_]) dX7_join_9 m_X7_drawerAt i_X7_drawerAt l_X7_98 (c_X7_drawerAt (zg E) hA he) (by first | assumption | exact zbigA.o (by assumption)) rfl rfl rfl (Nat.le_of_ble_eq_true rfl) ⟨Nat.le_of_ble_eq_true rfl, Nat.le_of_ble_eq_true rfl⟩ ⟨Nat.le_of_ble_eq_true rfl, Nat.le_of_ble_eq_true rfl⟩ ⟨rfl, rfl⟩ (fun y m1 hm2 => ?_)
    rcases y with _ | y
    · obtain ⟨rfl, hy⟩ := hm2
      refine z_astoreN X dX7_join_12 [_, _, _, _, _, _, _] (by decide) rfl ?_
      refine z_aload_n X dX7_join_14 rfl ?_
      refine z_iload_n X dX7_join_15 rfl ?_
      refine z_callVr X (As := [_]) dX7_join_16 m_X7_drawerAt i_X7_drawerAt l_X7_98 (c_X7_drawerAt (zg E) hA hf) (by first | assumption | exact zbigA.o (by assumption)) rfl rfl rfl (Nat.le_of_ble_eq_true rfl) ⟨Nat.le_of_ble_eq_true rfl, Nat.le_of_ble_eq_true rfl⟩ ⟨Nat.le_of_ble_eq_true rfl, Nat.le_of_ble_eq_true rfl⟩ ⟨rfl, rfl⟩ (fun z m1 hm3 => ?_)
      rcases z with _ | z
      · obtain ⟨rfl, hz⟩ := hm3
        refine z_astoreN X dX7_join_19 [_, _, _, _, _, _, _] (by decide) rfl ?_
        refine z_aload X dX7_join_21 rfl ?_
        refine z_ifnull X dX7_join_23 ?_
        refine z_aloadN X dX7_join_26 rfl ?_
        refine z_ifnullN X dX7_join_28 36 (by decide) ?_
        refine z_iconst X dX7_join_36 ?_
        refine z_ireturn (st := []) X rfl hQ dX7_join_37 ⟨rfl, _, rfl, ?_⟩
        exact out (by first | exact Or.inl hx.no | exact Or.inr (Or.inl hy.no) | exact Or.inr (Or.inr hz.no))
      · obtain ⟨rfl, hz⟩ := hm3
        refine z_astore X dX7_join_19 [_, _, _, _, _, _, _] (by decide) rfl ?_
        refine z_aload X dX7_join_21 rfl ?_
        refine z_ifnull X dX7_join_23 ?_
        refine z_aloadN X dX7_join_26 rfl ?_
        refine z_ifnullN X dX7_join_28 36 (by decide) ?_
        refine z_iconst X dX7_join_36 ?_
        refine z_ireturn (st := []) X rfl hQ dX7_join_37 ⟨rfl, _, rfl, ?_⟩
        exact out (by first | exact Or.inl hx.no | exact Or.inr (Or.inl hy.no) | exact Or.inr (Or.inr hz.no))
    · obtain ⟨rfl, hy⟩ := hm2
      refine z_astore X dX7_join_12 [_, _, _, _, _, _, _] (by decide) rfl ?_
      refine z_aload_n X dX7_join_14 rfl ?_
      refine z_iload_n X dX7_join_15 rfl ?_
      refine z_callVr X (As := [_]) dX7_join_16 m_X7_drawerAt i_X7_drawerAt l_X7_98 (c_X7_drawerAt (zg E) hA hf) (by first | assumption | exact zbigA.o (by assumption)) rfl rfl rfl (Nat.le_of_ble_eq_true rfl) ⟨Nat.le_of_ble_eq_true rfl, Nat.le_of_ble_eq_true rfl⟩ ⟨Nat.le_of_ble_eq_true rfl, Nat.le_of_ble_eq_true rfl⟩ ⟨rfl, rfl⟩ (fun z m1 hm3 => ?_)
      rcases z with _ | z
      · obtain ⟨rfl, hz⟩ := hm3
        refine z_astoreN X dX7_join_19 [_, _, _, _, _, _, _] (by decide) rfl ?_
        refine z_aload X dX7_join_21 rfl ?_
        refine z_ifnull X dX7_join_23 ?_
        refine z_aload X dX7_join_26 rfl ?_
        refine z_ifnull X dX7_join_28 ?_
        refine z_aloadN X dX7_join_31 rfl ?_
        refine z_ifnonnullN X dX7_join_33 ?_
        refine z_iconst X dX7_join_36 ?_
        refine z_ireturn (st := []) X rfl hQ dX7_join_37 ⟨rfl, _, rfl, ?_⟩
        exact out (by first | exact Or.inl hx.no | exact Or.inr (Or.inl hy.no) | exact Or.inr (Or.inr hz.no))
      · obtain ⟨rfl, hz⟩ := hm3
        refine z_astore X dX7_join_19 [_, _, _, _, _, _, _] (by decide) rfl ?_
        refine z_aload X dX7_join_21 rfl ?_
        refine z_ifnull X dX7_join_23 ?_
        refine z_aload X dX7_join_26 rfl ?_
        refine z_ifnull X dX7_join_28 ?_
        refine z_aload X dX7_join_31 rfl ?_
        refine z_ifnonnull X dX7_join_33 38 (by decide) ?_
        obtain ⟨k, hk, rfl, rfl⟩ := hx.yes
        obtain ⟨l, hl, rfl, rfl⟩ := hy.yes
        obtain ⟨t, ht, rfl, rfl⟩ := hz.yes
        have hd1 := (hD k hk).2
        have hd2 := hd1.1
        have he1 := (hD l hl).2
        have he2 := he1.1
        have hf1 := (hD t ht).2
        have hf2 := hf1.1
        obtain ⟨k5, hkr⟩ := hm.2.1 k hk
        obtain ⟨l5, hlr⟩ := hm.2.1 l hl
        have k01 := hkr.b4
        have l01 := hlr.b4
        refine z_aload X dX7_join_38 rfl ?_
        refine z_getI X dX7_join_40 f_X7_114 rfl (by first | assumption | exact zbigA.o (by assumption)) ?_
        refine z_if_eq X dX7_join_43 54 (by decide) (by omega) (fun h43 => ?_) (fun h43 => ?_)
        · refine z_bipush X dX7_join_54 (by decide) ?_
          refine z_ireturn (st := []) X rfl hQ dX7_join_56 ⟨rfl, _, rfl, ?_⟩
          rcases hkr.h4 with ⟨_, e0⟩ | ⟨h, _⟩
          · unfold sp_join
            rw [if_neg (by omega), Int.toNat_natCast, e0]
            exact ⟨hm, fun _ _ _ => rfl, rfl⟩
          · omega
        · refine z_aload X dX7_join_46 rfl ?_
          refine z_getI X dX7_join_48 f_X7_114 rfl (by first | assumption | exact zbigA.o (by assumption)) ?_
          refine z_if_ne X dX7_join_51 57 (by decide) (by omega) (fun h51 => ?_) (fun h51 => ?_)
          · rcases hkr.h4 with ⟨h0, _⟩ | ⟨k4, x, e0, x5, x6, x7, x8⟩
            · exact absurd h0 h43
            rcases hlr.h4 with ⟨h0, _⟩ | ⟨l4, y, e1, y5, y6, y7, y8⟩
            · exact absurd h0 h51
            obtain ⟨o1, o2, o3, o4⟩ := ho.2.1 k x hk e0
            obtain ⟨p1, p2, p3, p4⟩ := ho.2.1 l y hl e1
            have sp : sp_join σ (k : Int) (l : Int) (t : Int) = if x.1 ≠ y.1 ∨ x.2.2.1 ≠ y.2.1 then (-5, σ) else ((y.2.2.1 : Int) - (x.2.1 : Int), wD σ (zup (sD σ) t (some (x.1, x.2.1, y.2.2.1, zjoin x.2.2.2 y.2.2.2)))) := by
              unfold sp_join
              rw [if_neg (by omega), Int.toNat_natCast, Int.toNat_natCast, Int.toNat_natCast, e0, e1]
            refine z_aload X dX7_join_57 rfl ?_
            refine z_getI X dX7_join_59 f_X7_121 rfl (by first | assumption | exact zbigA.o (by assumption)) ?_
            refine z_aload X dX7_join_62 rfl ?_
            refine z_getI X dX7_join_64 f_X7_121 rfl (by first | assumption | exact zbigA.o (by assumption)) ?_
            refine z_icmp_ne X dX7_join_67 83 (by decide) (by omega) (by omega) (fun h67 => ?_) (fun h67 => ?_)
            · refine z_bipush X dX7_join_83 (by decide) ?_
              refine z_ireturn (st := []) X rfl hQ dX7_join_85 ⟨rfl, _, rfl, ?_⟩
              rw [sp, if_pos (by omega)]
              exact ⟨hm, fun _ _ _ => rfl, rfl⟩
            · refine z_aload X dX7_join_70 rfl ?_
              refine z_getI X dX7_join_72 f_X7_118 rfl (by first | assumption | exact zbigA.o (by assumption)) ?_
              refine z_aload X dX7_join_75 rfl ?_
              refine z_getI X dX7_join_77 f_X7_124 rfl (by first | assumption | exact zbigA.o (by assumption)) ?_
              refine z_icmp_eq X dX7_join_80 86 (by decide) (by omega) (by omega) (fun h80 => ?_) (fun h80 => ?_)
              · refine z_aload_n X dX7_join_86 rfl ?_
                refine z_getR X dX7_join_87 f_X7_30 rfl (by first | assumption | exact zbigA.o (by assumption)) (by assumption) ?_
                refine z_aload X dX7_join_90 rfl ?_
                refine z_aload X dX7_join_92 rfl ?_
                refine z_aload X dX7_join_94 rfl ?_
                refine z_callVv X (As := [_, _, _]) dX7_join_96 m_X4_putTogether i_X4_putTogether l_X7_127 (c_X4_putTogether (zg E) (n := x.2.2.1 - x.2.1) (k := y.2.2.1 - y.2.1) hd1 he1 hf1 gG (by omega) (by omega) (by omega) (by omega) (by omega) o4 p4 (by omega) x8 y8) (by first | assumption | exact zbigA.o (by assumption)) rfl rfl rfl (Nat.le_of_ble_eq_true rfl) ⟨Nat.le_of_ble_eq_true rfl, Nat.le_of_ble_eq_true rfl⟩ ⟨Nat.le_of_ble_eq_true rfl, Nat.le_of_ble_eq_true rfl⟩ ⟨rfl, rfl⟩ (fun m2 hm5 => ?_)
                obtain ⟨q1, ⟨q4, q5, q6, q7⟩, q8⟩ := hm5
                refine z_aload X dX7_join_99 rfl ?_
                refine z_callVi X (As := []) dX7_join_101 m_X5_terms i_X5_terms l_X7_110 (c_X5_terms (zg E) hf1) (by first | assumption | exact zbigA.o (by assumption)) rfl rfl rfl (Nat.le_of_ble_eq_true rfl) ⟨Nat.le_of_ble_eq_true rfl, Nat.le_of_ble_eq_true rfl⟩ ⟨Nat.le_of_ble_eq_true rfl, Nat.le_of_ble_eq_true rfl⟩ ⟨rfl, rfl⟩ (fun r9 m3 hm6 => ?_)
                refine z_ireturn (st := []) X rfl hQ dX7_join_104 ⟨rfl, _, rfl, ?_⟩
                obtain ⟨rfl, rfl⟩ := hm6
                rw [sp, if_neg (by omega)]
                exact ⟨hm.dr (x := some _) ht ⟨q4, q5.trans x5, q6.trans x6, q7.trans y7, q1⟩ (by omega) (fun a j h1 h2 => q8 a j (by omega) (by omega)), fun a j ha => q8 a j (by omega) (by omega), by show _ = (y.2.2.1 : Int) - (x.2.1 : Int); omega⟩
              · refine z_bipush X dX7_join_83 (by decide) ?_
                refine z_ireturn (st := []) X rfl hQ dX7_join_85 ⟨rfl, _, rfl, ?_⟩
                rw [sp, if_pos (by omega)]
                exact ⟨hm, fun _ _ _ => rfl, rfl⟩
          · refine z_bipush X dX7_join_54 (by decide) ?_
            refine z_ireturn (st := []) X rfl hQ dX7_join_56 ⟨rfl, _, rfl, ?_⟩
            rcases hkr.h4 with ⟨h, _⟩ | ⟨_, x, e0, _⟩
            · omega
            · rcases hlr.h4 with ⟨_, e1⟩ | ⟨h, _⟩
              · unfold sp_join
                rw [if_neg (by omega), Int.toNat_natCast, Int.toNat_natCast, e0, e1]
                exact ⟨hm, fun _ _ _ => rfl, rfl⟩
              · omega

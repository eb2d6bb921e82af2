/-! ConstantMill: sums; what a span tells -/
def zdemN (D : Nat → Option zDr) (s n : Nat) : Nat → Option zDr := fun d => if d < n then zdem D s d else D d
theorem zdemN_skip {D : Nat → Option zDr} {s n : Nat} (h : zdem D s n = D n) : ∀ d, zdemN D s (n + 1) d = zdemN D s n d := fun d => by
  unfold zdemN
  by_cases h1 : d < n
  · rw [if_pos h1, if_pos (by omega)]
  · by_cases h2 : d = n
    · subst h2
      rw [if_pos (by omega), if_neg (by omega), h]
    · rw [if_neg (by omega), if_neg (by omega)]
theorem zdemN_take {D : Nat → Option zDr} {s n : Nat} (h : zdem D s n = none) : ∀ d, zdemN D s (n + 1) d = zup (zdemN D s n) n none d := fun d => by
  show (if d < n + 1 then zdem D s d else D d) = if d = n then none else if d < n then zdem D s d else D d
  by_cases h1 : d < n
  · rw [if_pos (by omega), if_neg (by omega), if_pos h1]
  · by_cases h2 : d = n
    · subst h2
      rw [if_pos (by omega), if_pos rfl, h]
    · rw [if_neg (by omega), if_neg (by omega), if_neg (by omega)]
theorem zdcn_le (D : Nat → Option zDr) (s : Nat) : ∀ n, zdcn D s n ≤ n
  | 0 => Nat.le_refl _
  | n + 1 => by
    unfold zdcn
    have := zdcn_le D s n
    split
    · split <;> omega
    · omega
/-- but for the mill itself nothing is changed -/
def zmo (b : Nat) (m m' : zM) : Prop := ∀ a j, (a < b ∨ b + 149 ≤ a) → m' a j = m a j
theorem zmo.w {b q k : Nat} {m m' : zM} {x : Int} (h : zmo b m m') (hq : b ≤ q ∧ q < b + 149) : zmo b m (zms m' q k x) := fun a j ha => (zms_nq _ _ _ _ _ (by omega)).trans (h a j ha)
theorem zmo.t {b : Nat} {m m1 m2 : zM} (h : zmo b m m1) (g : zmo b m1 m2) : zmo b m m2 := fun a j ha => (g a j ha).trans (h a j ha)
theorem zmo.o {b d g : Nat} {m m1 m2 : zM} (h : zmo b m m1) (hf : zout m1 m2 d g) (hd : (b ≤ d ∧ d + 9 ≤ b + 149) ∧ b ≤ g ∧ g + 9 ≤ b + 149) : zmo b m m2 := fun a j ha => (hf a j (by omega) (by omega)).trans (h a j ha)
theorem zl_emptyDrawersOf {E : zCx} (X : zOK E cX7_emptyDrawersOf RX7 7 (some .int) k_X7_emptyDrawersOf.2.2.2.2) {A : zA} {b s : Nat} {σ : zSt} {m0 : zM} (hs6 : s < 6) (hA : zmilA A b) {P : Int → zM → Prop} (hQ : zRet E (zpi A P) 0 0) (hP : ∀ m', zCR b m' (wD σ (zdem (sD σ) s)) → zmo b m0 m' → P (zdcn (sD σ) s 8 : Int) m') : ∀ (r n : Nat) (m : zM) (l6 : Option Value), n + r = 8 → zCR b m (wD σ (zdemN (sD σ) s n)) → zmo b m0 m → zW E (0, 0) A m 14 [some (vr b), some (vi (s : Int)), some (vi (zdcn (sD σ) s n : Int)), some (vr (b + 2)), some (vi 8), some (vi (n : Int)), l6] [] := by
  obtain ⟨⟨hB, r0, r1, r2, r3, r4, r5, r6, r7, r8⟩, ⟨a1, a2, a3⟩, ⟨gG, gE, gP, gF, gT, gU⟩, hS, hD, hC⟩ := id hA
  intro r
  induction r with
  | zero =>
    intro n m l6 hn hm hF
    obtain rfl : n = 8 := by omega
    refine z_iload X dX7_emptyDrawersOf_14 rfl ?_
    refine z_iload X dX7_emptyDrawersOf_16 rfl ?_
    refine z_icmp_ge X dX7_emptyDrawersOf_18 64 (by decide) (by omega) (by omega) (fun h18 => ?_) (fun h18 => ?_)
    · refine z_iload_n X dX7_emptyDrawersOf_64 rfl ?_
      refine z_ireturn (st := []) X rfl hQ dX7_emptyDrawersOf_65 ⟨rfl, _, rfl, ?_⟩
      exact hP m (hm.D (fun d hd => by unfold zdemN; rw [if_pos hd])) hF
    · exact absurd h18 (by omega)
  | succ r ih =>
    intro n m l6 hn hm hF
    have hle := zdcn_le (sD σ) s n
    have hs1 := (hD n (by omega)).1
    have hs2 := (hD n (by omega)).2.1
    have hdr := hm.2.1 n (by omega)
    have hDn : sD (wD σ (zdemN (sD σ) s n)) n = sD σ n := by show zdemN (sD σ) s n n = _; unfold zdemN; rw [if_neg (by omega)]
    rw [hDn] at hdr
    obtain ⟨h5, hdr⟩ := hdr
    have hcn : zdcn (sD σ) s (n + 1) = zdcn (sD σ) s n + match sD σ n with
      | some x => if x.1 = s then 1 else 0
      | none => 0 := rfl
    have h4 : m (b + 61 + 9 * n) 4 = 0 ∨ m (b + 61 + 9 * n) 4 = 1 := by
      rcases hx : sD σ n with _ | x
      · rw [hx] at hdr; exact Or.inl hdr
      · rw [hx] at hdr; exact Or.inr hdr.1
    refine z_iload X dX7_emptyDrawersOf_14 rfl ?_
    refine z_iload X dX7_emptyDrawersOf_16 rfl ?_
    refine z_icmp_ge X dX7_emptyDrawersOf_18 64 (by decide) (by omega) (by omega) (fun h18 => ?_) (fun h18 => ?_)
    · exact absurd h18 (by omega)
    · refine z_aload_n X dX7_emptyDrawersOf_21 rfl ?_
      refine z_iload X dX7_emptyDrawersOf_22 rfl ?_
      refine z_aald X (n) dX7_emptyDrawersOf_24 (by omega) (t := 3) (by decide) (by assumption) (by omega) (by omega) (by assumption) ?_
      refine z_astore X dX7_emptyDrawersOf_25 [_, _, _, _, _, _, _] (by decide) rfl ?_
      refine z_aload X dX7_emptyDrawersOf_27 rfl ?_
      refine z_ifnull X dX7_emptyDrawersOf_29 ?_
      refine z_aload X dX7_emptyDrawersOf_32 rfl ?_
      refine z_getI X dX7_emptyDrawersOf_34 f_X7_114 rfl (by first | assumption | exact zbigA.o (by assumption)) ?_
      refine z_if_eq X dX7_emptyDrawersOf_37 58 (by decide) (by omega) (fun h37 => ?_) (fun h37 => ?_)
      · refine z_iinc X dX7_emptyDrawersOf_58 rfl (fun y => [_, _, _, _, _, some (vi y), _]) (fun _ => rfl) (fun x5_58 hx5_58 => ?_)
        obtain rfl : x5_58 = ((n + 1 : Nat) : Int) := by omega
        refine z_goto X dX7_emptyDrawersOf_61 14 (by decide) ?_
        have e : zdcn (sD σ) s (n + 1) = zdcn (sD σ) s n ∧ zdem (sD σ) s n = sD σ n := by
          rcases hx : sD σ n with _ | x
          · rw [hcn, hx]; exact ⟨rfl, by unfold zdem; rw [hx]⟩
          · rw [hx] at hdr
            have := hdr.1
            omega
        have h := ih (n + 1) m (some (vr (b + 61 + 9 * n))) (by omega) (hm.D (fun d _ => zdemN_skip e.2 d)) hF
        rw [e.1] at h
        exact h
      · refine z_aload X dX7_emptyDrawersOf_40 rfl ?_
        refine z_getI X dX7_emptyDrawersOf_42 f_X7_121 rfl (by first | assumption | exact zbigA.o (by assumption)) ?_
        refine z_iload_n X dX7_emptyDrawersOf_45 rfl ?_
        refine z_icmp_ne X dX7_emptyDrawersOf_46 58 (by decide) (by omega) (by omega) (fun h46 => ?_) (fun h46 => ?_)
        · refine z_iinc X dX7_emptyDrawersOf_58 rfl (fun y => [_, _, _, _, _, some (vi y), _]) (fun _ => rfl) (fun x5_58 hx5_58 => ?_)
          obtain rfl : x5_58 = ((n + 1 : Nat) : Int) := by omega
          refine z_goto X dX7_emptyDrawersOf_61 14 (by decide) ?_
          have e : zdcn (sD σ) s (n + 1) = zdcn (sD σ) s n ∧ zdem (sD σ) s n = sD σ n := by
            rcases hx : sD σ n with _ | x
            · rw [hcn, hx]; exact ⟨rfl, by unfold zdem; rw [hx]⟩
            · rw [hx] at hdr
              have := hdr.2.1
              have hne : x.1 ≠ s := by omega
              rw [hcn, hx]
              exact ⟨by simp [hne], by unfold zdem; rw [hx]; simp [hne]⟩
          have h := ih (n + 1) m (some (vr (b + 61 + 9 * n))) (by omega) (hm.D (fun d _ => zdemN_skip e.2 d)) hF
          rw [e.1] at h
          exact h
        · refine z_aload X dX7_emptyDrawersOf_49 rfl ?_
          refine z_iconst X dX7_emptyDrawersOf_51 ?_
          refine z_putZ X dX7_emptyDrawersOf_52 f_X7_114 (by first | exact Or.inl rfl | exact Or.inr rfl | omega) rfl rfl (by first | assumption | exact zbigA.o (by assumption)) ?_
          refine z_iinc X dX7_emptyDrawersOf_55 rfl (fun y => [_, _, some (vi y), _, _, _, _]) (fun _ => rfl) (fun x2_55 hx2_55 => ?_)
          refine z_iinc X dX7_emptyDrawersOf_58 rfl (fun y => [_, _, _, _, _, some (vi y), _]) (fun _ => rfl) (fun x5_58 hx5_58 => ?_)
          obtain rfl : x5_58 = ((n + 1 : Nat) : Int) := by omega
          refine z_goto X dX7_emptyDrawersOf_61 14 (by decide) ?_
          have e : zdcn (sD σ) s (n + 1) = zdcn (sD σ) s n + 1 ∧ zdem (sD σ) s n = none := by
            rcases hx : sD σ n with _ | x
            · rw [hx] at hdr
              have : m (b + 61 + 9 * n) 4 = 0 := hdr
              omega
            · rw [hx] at hdr
              have := hdr.2.1
              have he : x.1 = s := by omega
              rw [hcn, hx]
              exact ⟨by simp [he], by unfold zdem; rw [hx]; simp [he]⟩
          have hm' : zCR b (zms m (b + 61 + 9 * n) 4 0) (wD (wD σ (zdemN (sD σ) s n)) (zup (zdemN (sD σ) s n) n none)) := hm.dr (x := none) (by omega) (zms_same _ _ _ _) (by rw [zms_nk _ _ _ _ _ (by omega)]; exact h5) (fun a j _ h => zms_nq _ _ _ _ _ (by omega))
          have h := ih (n + 1) _ (some (vr (b + 61 + 9 * n))) (by omega) (hm'.D (σ := wD σ (zdemN (sD σ) s n)) (fun d _ => zdemN_take e.2 d)) (hF.w (by omega))
          rw [e.1] at h
          obtain rfl : x2_55 = ((zdcn (sD σ) s n + 1 : Nat) : Int) := by omega
          exact h
theorem zdemN_0 (D : Nat → Option zDr) (s : Nat) : zdemN D s 0 = D := by
  funext d
  unfold zdemN
  rw [if_neg (by omega)]
theorem c_X7_emptyDrawersOf (G : zG) {A : zA} {m : zM} {b : Nat} {σ : zSt} {i : Int} (s : Nat) (hi : i = (s : Int)) (hs : s < 6) (hA : zmilA A b) (hm : zCR b m σ) : zMet G k_X7_emptyDrawersOf [vr b, vi i] A m (zpi A (fun r m' => zCR b m' (wD σ (zdem (sD σ) s)) ∧ zmo b m m' ∧ r = (zdcn (sD σ) s 8 : Int))) := by
  subst hi
  obtain ⟨⟨hB, r0, r1, r2, r3, r4, r5, r6, r7, r8⟩, ⟨a1, a2, a3⟩, ⟨gG, gE, gP, gF, gT, gU⟩, hS, hD, hC⟩ := id hA
  refine zMet.of RX7 rfl (by decide +kernel) (Nat.le_of_ble_eq_true rfl) [some (vr b), some (vi (s : Int)), none, none, none, none, none] rfl (fun E hG X hQ hNm => ?_)
  subst hG
  refine z_iconst X dX7_emptyDrawersOf_0 ?_
  refine z_istore_n X dX7_emptyDrawersOf_1 (fun y => [_, _, some (vi y), _, _, _, _]) (by decide) (fun _ => rfl) (fun x2_1 hx2_1 => ?_)
  subst hx2_1
  refine z_aload_n X dX7_emptyDrawersOf_2 rfl ?_
  refine z_getR X dX7_emptyDrawersOf_3 f_X7_17 rfl (by first | assumption | exact zbigA.o (by assumption)) (by assumption) ?_
  refine z_astore_n X dX7_emptyDrawersOf_6 [_, _, _, _, _, _, _] (by decide) rfl ?_
  refine z_aload_n X dX7_emptyDrawersOf_7 rfl ?_
  refine z_alen X dX7_emptyDrawersOf_8 (by assumption) ?_
  refine z_istore X dX7_emptyDrawersOf_9 (fun y => [_, _, _, _, some (vi y), _, _]) (by decide) (fun _ => rfl) (fun x4_9 hx4_9 => ?_)
  subst hx4_9
  refine z_iconst X dX7_emptyDrawersOf_11 ?_
  refine z_istore X dX7_emptyDrawersOf_12 (fun y => [_, _, _, _, _, some (vi y), _]) (by decide) (fun _ => rfl) (fun x5_12 hx5_12 => ?_)
  subst hx5_12
  have hm0 : zCR b m (wD σ (zdemN (sD σ) s 0)) := by rw [zdemN_0]; exact hm
  exact zl_emptyDrawersOf X hs hA hQ (fun m' h g => ⟨h, g, rfl⟩) 8 0 m none (by omega) hm0 (fun _ _ _ => rfl)
theorem c_X7_rule (G : zG) {A : zA} {m : zM} {b : Nat} {σ : zSt} {s w x y z : Int} (hA : zmilA A b) (hm : zCR b m σ) (hs : zi32 s) (hw : zi32 w) (hx : zi32 x) (hy : zi32 y) (hz : zi32 z) : zMet G k_X7_rule [vr b, vi s, vi w, vi x, vi y, vi z] A m (zpi A (fun r m' => zCR b m' (sp_rule σ s w x y z).2 ∧ zmo b m m' ∧ r = (sp_rule σ s w x y z).1)) := by
  obtain ⟨⟨hB, r0, r1, r2, r3, r4, r5, r6, r7, r8⟩, ⟨a1, a2, a3⟩, ⟨gG, gE, gP, gF, gT, gU⟩, hS, hD, hC⟩ := id hA
  have out : zin s 0 5 → (¬ zin w 0 3 ∨ ¬ zin x (-999) 999 ∨ ¬ zin y (-999) 999 ∨ ¬ zin z (-999) 999) → zCR b m (sp_rule σ s w x y z).2 ∧ zmo b m m ∧ -2 = (sp_rule σ s w x y z).1 := fun h1 h2 => by
    unfold sp_rule
    rw [if_neg (by omega), if_pos h2]
    exact ⟨hm, fun _ _ _ => rfl, rfl⟩
  refine zMet.of RX7 rfl (by decide +kernel) (Nat.le_of_ble_eq_true rfl) [some (vr b), some (vi s), some (vi w), some (vi x), some (vi y), some (vi z), none] rfl (fun E hG X hQ hNm => ?_)
  subst hG
  refine z_aload_n X dX7_rule_0 rfl ?_
  refine z_iload_n X dX7_rule_1 rfl ?_
  refine z_callVr X (As := [_]) dX7_rule_2 m_X7_sumAt i_X7_sumAt l_X7_61 (c_X7_sumAt (zg E) hA hs) (by first | assumption | exact zbigA.o (by assumption)) rfl rfl rfl (Nat.le_of_ble_eq_true rfl) ⟨Nat.le_of_ble_eq_true rfl, Nat.le_of_ble_eq_true rfl⟩ ⟨Nat.le_of_ble_eq_true rfl, Nat.le_of_ble_eq_true rfl⟩ ⟨rfl, rfl⟩ (fun f m1 hm1 => ?_)
  rcases f with _ | f
  · obtain ⟨rfl, hf⟩ := hm1
    refine z_astoreN X dX7_rule_5 [_, _, _, _, _, _, _] (by decide) rfl ?_
    refine z_aloadN X dX7_rule_7 rfl ?_
    refine z_ifnonnullN X dX7_rule_9 ?_
    refine z_iconst X dX7_rule_12 ?_
    refine z_ireturn (st := []) X rfl hQ dX7_rule_13 ⟨rfl, _, rfl, ?_⟩
    have h := hf.no
    unfold sp_rule
    rw [if_pos (by omega)]
    exact ⟨hm, fun _ _ _ => rfl, rfl⟩
  · obtain ⟨rfl, hf⟩ := hm1
    obtain ⟨k, hk, rfl, rfl⟩ := hf.yes
    have hs1 := (hS k hk).2
    have hs2 := hs1.1
    refine z_astore X dX7_rule_5 [_, _, _, _, _, _, _] (by decide) rfl ?_
    refine z_aload X dX7_rule_7 rfl ?_
    refine z_ifnonnull X dX7_rule_9 14 (by decide) ?_
    refine z_iload_n X dX7_rule_14 rfl ?_
    refine z_callSi X (As := [_]) dX7_rule_15 m_X7_isRule s_X7_isRule l_X7_65 (c_X7_isRule (zg E) hw) rfl rfl (Nat.le_of_ble_eq_true rfl) ⟨Nat.le_of_ble_eq_true rfl, Nat.le_of_ble_eq_true rfl⟩ ⟨Nat.le_of_ble_eq_true rfl, Nat.le_of_ble_eq_true rfl⟩ ⟨rfl, rfl⟩ (fun r1 m1 hm1 => ?_)
    obtain ⟨rfl, hr1⟩ := hm1
    refine z_if_eq X dX7_rule_18 44 (by decide) (by omega) (fun h18 => ?_) (fun h18 => ?_)
    · refine z_bipush X dX7_rule_44 (by decide) ?_
      refine z_ireturn (st := []) X rfl hQ dX7_rule_46 ⟨rfl, _, rfl, ?_⟩
      exact out (by omega) (by omega)
    · refine z_iload_n X dX7_rule_21 rfl ?_
      refine z_callSi X (As := [_]) dX7_rule_22 m_X7_isCoefficient s_X7_isCoefficient l_X7_69 (c_X7_isCoefficient (zg E) hx) rfl rfl (Nat.le_of_ble_eq_true rfl) ⟨Nat.le_of_ble_eq_true rfl, Nat.le_of_ble_eq_true rfl⟩ ⟨Nat.le_of_ble_eq_true rfl, Nat.le_of_ble_eq_true rfl⟩ ⟨rfl, rfl⟩ (fun r2 m1 hm1 => ?_)
      obtain ⟨rfl, hr2⟩ := hm1
      refine z_if_eq X dX7_rule_25 44 (by decide) (by omega) (fun h25 => ?_) (fun h25 => ?_)
      · refine z_bipush X dX7_rule_44 (by decide) ?_
        refine z_ireturn (st := []) X rfl hQ dX7_rule_46 ⟨rfl, _, rfl, ?_⟩
        exact out (by omega) (by omega)
      · refine z_iload X dX7_rule_28 rfl ?_
        refine z_callSi X (As := [_]) dX7_rule_30 m_X7_isCoefficient s_X7_isCoefficient l_X7_69 (c_X7_isCoefficient (zg E) hy) rfl rfl (Nat.le_of_ble_eq_true rfl) ⟨Nat.le_of_ble_eq_true rfl, Nat.le_of_ble_eq_true rfl⟩ ⟨Nat.le_of_ble_eq_true rfl, Nat.le_of_ble_eq_true rfl⟩ ⟨rfl, rfl⟩ (fun r3 m1 hm1 => ?_)
        obtain ⟨rfl, hr3⟩ := hm1
        refine z_if_eq X dX7_rule_33 44 (by decide) (by omega) (fun h33 => ?_) (fun h33 => ?_)
        · refine z_bipush X dX7_rule_44 (by decide) ?_
          refine z_ireturn (st := []) X rfl hQ dX7_rule_46 ⟨rfl, _, rfl, ?_⟩
          exact out (by omega) (by omega)
        · refine z_iload X dX7_rule_36 rfl ?_
          refine z_callSi X (As := [_]) dX7_rule_38 m_X7_isCoefficient s_X7_isCoefficient l_X7_69 (c_X7_isCoefficient (zg E) hz) rfl rfl (Nat.le_of_ble_eq_true rfl) ⟨Nat.le_of_ble_eq_true rfl, Nat.le_of_ble_eq_true rfl⟩ ⟨Nat.le_of_ble_eq_true rfl, Nat.le_of_ble_eq_true rfl⟩ ⟨rfl, rfl⟩ (fun r4 m1 hm1 => ?_)
          obtain ⟨rfl, hr4⟩ := hm1
          refine z_if_ne X dX7_rule_41 47 (by decide) (by omega) (fun h41 => ?_) (fun h41 => ?_)
          · refine z_aload X dX7_rule_47 rfl ?_
            refine z_iload_n X dX7_rule_49 rfl ?_
            refine z_iload_n X dX7_rule_50 rfl ?_
            refine z_iload X dX7_rule_51 rfl ?_
            refine z_iload X dX7_rule_53 rfl ?_
            refine z_callVv X (As := [_, _, _, _]) dX7_rule_55 m_X6_setRule i_X6_setRule l_X7_72 (c_X6_setRule (zg E) hs1 w.toNat (by omega) (by omega)) (by first | assumption | exact zbigA.o (by assumption)) rfl rfl rfl (Nat.le_of_ble_eq_true rfl) ⟨Nat.le_of_ble_eq_true rfl, Nat.le_of_ble_eq_true rfl⟩ ⟨Nat.le_of_ble_eq_true rfl, Nat.le_of_ble_eq_true rfl⟩ ⟨rfl, rfl⟩ (fun m1 hm1 => ?_)
            subst hm1
            have hu : zCR b (zms (zms (zms m (b + 37 + 4 * k + 1) w.toNat x) (b + 37 + 4 * k + 2) w.toNat y) (b + 37 + 4 * k + 3) w.toNat z) (wC σ (zup (sC σ) k (zup (sC σ k) w.toNat (fun j => if j = 0 then x else if j = 1 then y else z)))) := by
              refine hm.su hk ?_ (fun t ht => ⟨zup_ne _ _ ht, rfl, rfl⟩) (fun a j h => by rw [zms_nq _ _ _ _ _ (by omega), zms_nq _ _ _ _ _ (by omega), zms_nq _ _ _ _ _ (by omega)])
              obtain ⟨q1, q2, q3⟩ := hm.1 k hk
              rw [zup_same]
              refine ⟨fun t ht => ?_, ?_, ?_⟩
              · obtain ⟨p1, p2, p3⟩ := q1 t ht
                by_cases htw : t = w.toNat
                · subst htw
                  rw [zup_same]
                  simp [zms]
                · rw [zup_ne _ _ htw]
                  simp [zms, htw]
                  exact ⟨p1, p2, p3⟩
              · simp [zms]; exact q2
              · simp [zms]; exact q3
            refine z_aload_n X dX7_rule_58 rfl ?_
            refine z_iload_n X dX7_rule_59 rfl ?_
            refine z_callVi X (As := [_]) dX7_rule_60 m_X7_emptyDrawersOf i_X7_emptyDrawersOf l_X7_76 (c_X7_emptyDrawersOf (zg E) k rfl hk hA hu) (by first | assumption | exact zbigA.o (by assumption)) rfl rfl rfl (Nat.le_of_ble_eq_true rfl) ⟨Nat.le_of_ble_eq_true rfl, Nat.le_of_ble_eq_true rfl⟩ ⟨Nat.le_of_ble_eq_true rfl, Nat.le_of_ble_eq_true rfl⟩ ⟨rfl, rfl⟩ (fun r5 m1 hm1 => ?_)
            refine z_ireturn (st := []) X rfl hQ dX7_rule_63 ⟨rfl, _, rfl, ?_⟩
            obtain ⟨e1, e2, rfl⟩ := hm1
            unfold sp_rule
            rw [if_neg (by omega), if_neg (by omega), Int.toNat_natCast]
            exact ⟨e1, zmo.t (fun a j ha => by rw [zms_nq _ _ _ _ _ (by omega), zms_nq _ _ _ _ _ (by omega), zms_nq _ _ _ _ _ (by omega)]) e2, rfl⟩
          · refine z_bipush X dX7_rule_44 (by decide) ?_
            refine z_ireturn (st := []) X rfl hQ dX7_rule_46 ⟨rfl, _, rfl, ?_⟩
            exact out (by omega) (by omega)
theorem c_X7_bound (G : zG) {A : zA} {m : zM} {b : Nat} {σ : zSt} {s x y : Int} (hA : zmilA A b) (hm : zCR b m σ) (hs : zi32 s) (hx : zi32 x) (hy : zi32 y) : zMet G k_X7_bound [vr b, vi s, vi x, vi y] A m (zpi A (fun r m' => zCR b m' (sp_bound σ s x y).2 ∧ zmo b m m' ∧ r = (sp_bound σ s x y).1)) := by
  obtain ⟨⟨hB, r0, r1, r2, r3, r4, r5, r6, r7, r8⟩, ⟨a1, a2, a3⟩, ⟨gG, gE, gP, gF, gT, gU⟩, hS, hD, hC⟩ := id hA
  refine zMet.of RX7 rfl (by decide +kernel) (Nat.le_of_ble_eq_true rfl) [some (vr b), some (vi s), some (vi x), some (vi y), none] rfl (fun E hG X hQ hNm => ?_)
  subst hG
  refine z_aload_n X dX7_bound_0 rfl ?_
  refine z_iload_n X dX7_bound_1 rfl ?_
  refine z_callVr X (As := [_]) dX7_bound_2 m_X7_sumAt i_X7_sumAt l_X7_61 (c_X7_sumAt (zg E) hA hs) (by first | assumption | exact zbigA.o (by assumption)) rfl rfl rfl (Nat.le_of_ble_eq_true rfl) ⟨Nat.le_of_ble_eq_true rfl, Nat.le_of_ble_eq_true rfl⟩ ⟨Nat.le_of_ble_eq_true rfl, Nat.le_of_ble_eq_true rfl⟩ ⟨rfl, rfl⟩ (fun f m1 hm1 => ?_)
  rcases f with _ | f
  · obtain ⟨rfl, hf⟩ := hm1
    refine z_astoreN X dX7_bound_5 [_, _, _, _, _] (by decide) rfl ?_
    refine z_aloadN X dX7_bound_7 rfl ?_
    refine z_ifnonnullN X dX7_bound_9 ?_
    refine z_iconst X dX7_bound_12 ?_
    refine z_ireturn (st := []) X rfl hQ dX7_bound_13 ⟨rfl, _, rfl, ?_⟩
    have h := hf.no
    unfold sp_bound
    rw [if_pos (by omega)]
    exact ⟨hm, fun _ _ _ => rfl, rfl⟩
  · obtain ⟨rfl, hf⟩ := hm1
    obtain ⟨k, hk, rfl, rfl⟩ := hf.yes
    have hs1 := (hS k hk).2
    have hs2 := hs1.1
    unfold zi32 at hx hy
    refine z_astore X dX7_bound_5 [_, _, _, _, _] (by decide) rfl ?_
    refine z_aload X dX7_bound_7 rfl ?_
    refine z_ifnonnull X dX7_bound_9 14 (by decide) ?_
    refine z_iload_n X dX7_bound_14 rfl ?_
    refine z_iconst X dX7_bound_15 ?_
    refine z_icmp_lt X dX7_bound_16 30 (by decide) (by omega) (by omega) (fun h16 => ?_) (fun h16 => ?_)
    · refine z_bipush X dX7_bound_30 (by decide) ?_
      refine z_ireturn (st := []) X rfl hQ dX7_bound_32 ⟨rfl, _, rfl, ?_⟩
      unfold sp_bound
      rw [if_neg (by omega), if_pos (by omega)]
      exact ⟨hm, fun _ _ _ => rfl, rfl⟩
    · refine z_iload_n X dX7_bound_19 rfl ?_
      refine z_iload_n X dX7_bound_20 rfl ?_
      refine z_icmp_le X dX7_bound_21 30 (by decide) (by omega) (by omega) (fun h21 => ?_) (fun h21 => ?_)
      · refine z_bipush X dX7_bound_30 (by decide) ?_
        refine z_ireturn (st := []) X rfl hQ dX7_bound_32 ⟨rfl, _, rfl, ?_⟩
        unfold sp_bound
        rw [if_neg (by omega), if_pos (by omega)]
        exact ⟨hm, fun _ _ _ => rfl, rfl⟩
      · refine z_iload_n X dX7_bound_24 rfl ?_
        refine z_ldc X dX7_bound_25 q_X7_80 (1000000) (by decide) ?_
        refine z_icmp_le X dX7_bound_27 33 (by decide) (by omega) (by omega) (fun h27 => ?_) (fun h27 => ?_)
        · refine z_aload X dX7_bound_33 rfl ?_
          refine z_iload_n X dX7_bound_35 rfl ?_
          refine z_putI X dX7_bound_36 f_X7_81 rfl rfl (by first | assumption | exact zbigA.o (by assumption)) ?_
          refine z_aload X dX7_bound_39 rfl ?_
          refine z_iload_n X dX7_bound_41 rfl ?_
          refine z_putI X dX7_bound_42 f_X7_85 rfl rfl (by first | assumption | exact zbigA.o (by assumption)) ?_
          have hu : zCR b (zms (zms m (b + 37 + 4 * k) 3 x) (b + 37 + 4 * k) 4 y) (wUV σ (zup (sU σ) k x) (zup (sV σ) k y)) := by
            refine hm.su hk ?_ (fun t ht => ⟨rfl, zup_ne _ _ ht, zup_ne _ _ ht⟩) (fun a j h => by rw [zms_nq _ _ _ _ _ (by omega), zms_nq _ _ _ _ _ (by omega)])
            obtain ⟨q1, q2, q3⟩ := hm.1 k hk
            rw [zup_same, zup_same]
            exact ⟨fun t ht => by simpa [zms] using q1 t ht, by simp [zms], by simp [zms]⟩
          refine z_aload_n X dX7_bound_45 rfl ?_
          refine z_iload_n X dX7_bound_46 rfl ?_
          refine z_callVi X (As := [_]) dX7_bound_47 m_X7_emptyDrawersOf i_X7_emptyDrawersOf l_X7_76 (c_X7_emptyDrawersOf (zg E) k rfl hk hA hu) (by first | assumption | exact zbigA.o (by assumption)) rfl rfl rfl (Nat.le_of_ble_eq_true rfl) ⟨Nat.le_of_ble_eq_true rfl, Nat.le_of_ble_eq_true rfl⟩ ⟨Nat.le_of_ble_eq_true rfl, Nat.le_of_ble_eq_true rfl⟩ ⟨rfl, rfl⟩ (fun r5 m1 hm1 => ?_)
          refine z_ireturn (st := []) X rfl hQ dX7_bound_50 ⟨rfl, _, rfl, ?_⟩
          obtain ⟨e1, e2, rfl⟩ := hm1
          unfold sp_bound
          rw [if_neg (by omega), if_neg (by omega), Int.toNat_natCast]
          exact ⟨e1, zmo.t (fun a j ha => by rw [zms_nq _ _ _ _ _ (by omega), zms_nq _ _ _ _ _ (by omega)]) e2, rfl⟩
        · refine z_bipush X dX7_bound_30 (by decide) ?_
          refine z_ireturn (st := []) X rfl hQ dX7_bound_32 ⟨rfl, _, rfl, ?_⟩
          unfold sp_bound
          rw [if_neg (by omega), if_pos (by omega)]
          exact ⟨hm, fun _ _ _ => rfl, rfl⟩
theorem c_X7_at (G : zG) {A : zA} {m : zM} {b : Nat} {σ : zSt} {s w k : Int} (hA : zmilA A b) (hm : zCR b m σ) (ho : zStok σ) (hs : zi32 s) (hw : zi32 w) (hk : zi32 k) : zMet G k_X7_at [vr b, vi s, vi w, vi k] A m (zpi A (fun r m' => m = m' ∧ r = sp_at σ s w k)) := by
  obtain ⟨⟨hB, r0, r1, r2, r3, r4, r5, r6, r7, r8⟩, ⟨a1, a2, a3⟩, ⟨gG, gE, gP, gF, gT, gU⟩, hS, hD, hC⟩ := id hA
  refine zMet.of RX7 rfl (by decide +kernel) (Nat.le_of_ble_eq_true rfl) [some (vr b), some (vi s), some (vi w), some (vi k), none] rfl (fun E hG X hQ hNm => ?_)
  subst hG
  refine z_aload_n X dX7_at_0 rfl ?_
  refine z_iload_n X dX7_at_1 rfl ?_
  refine z_callVr X (As := [_]) dX7_at_2 m_X7_sumAt i_X7_sumAt l_X7_61 (c_X7_sumAt (zg E) hA hs) (by first | assumption | exact zbigA.o (by assumption)) rfl rfl rfl (Nat.le_of_ble_eq_true rfl) ⟨Nat.le_of_ble_eq_true rfl, Nat.le_of_ble_eq_true rfl⟩ ⟨Nat.le_of_ble_eq_true rfl, Nat.le_of_ble_eq_true rfl⟩ ⟨rfl, rfl⟩ (fun f m1 hm1 => ?_)
  rcases f with _ | f
  · obtain ⟨rfl, hf⟩ := hm1
    refine z_astoreN X dX7_at_5 [_, _, _, _, _] (by decide) rfl ?_
    refine z_aloadN X dX7_at_7 rfl ?_
    refine z_ifnullN X dX7_at_9 19 (by decide) ?_
    refine z_ldc X dX7_at_19 q_X7_88 (-1000000001) (by decide) ?_
    refine z_ireturn (st := []) X rfl hQ dX7_at_21 ⟨rfl, _, rfl, ?_⟩
    have h := hf.no
    refine ⟨rfl, ?_⟩
    unfold sp_at
    rw [if_pos (by omega)]
  · obtain ⟨rfl, hf⟩ := hm1
    obtain ⟨t, ht, rfl, rfl⟩ := hf.yes
    have hs1 := (hS t ht).2
    have hs2 := hs1.1
    unfold zi32 at hk
    refine z_astore X dX7_at_5 [_, _, _, _, _] (by decide) rfl ?_
    refine z_aload X dX7_at_7 rfl ?_
    refine z_ifnull X dX7_at_9 ?_
    refine z_iload_n X dX7_at_12 rfl ?_
    refine z_callSi X (As := [_]) dX7_at_13 m_X7_isRule s_X7_isRule l_X7_65 (c_X7_isRule (zg E) hw) rfl rfl (Nat.le_of_ble_eq_true rfl) ⟨Nat.le_of_ble_eq_true rfl, Nat.le_of_ble_eq_true rfl⟩ ⟨Nat.le_of_ble_eq_true rfl, Nat.le_of_ble_eq_true rfl⟩ ⟨rfl, rfl⟩ (fun r1 m1 hm1 => ?_)
    obtain ⟨rfl, hr1⟩ := hm1
    refine z_if_ne X dX7_at_16 22 (by decide) (by omega) (fun h16 => ?_) (fun h16 => ?_)
    · refine z_iload_n X dX7_at_22 rfl ?_
      refine z_if_lt X dX7_at_23 32 (by decide) (by omega) (fun h23 => ?_) (fun h23 => ?_)
      · refine z_ldc X dX7_at_32 q_X7_89 (-1000000002) (by decide) ?_
        refine z_ireturn (st := []) X rfl hQ dX7_at_34 ⟨rfl, _, rfl, ?_⟩
        refine ⟨rfl, ?_⟩
        unfold sp_at
        rw [if_neg (by omega), if_pos (by omega)]
      · refine z_iload_n X dX7_at_26 rfl ?_
        refine z_bipush X dX7_at_27 (by decide) ?_
        refine z_icmp_lt X dX7_at_29 35 (by decide) (by omega) (by omega) (fun h29 => ?_) (fun h29 => ?_)
        · refine z_aload X dX7_at_35 rfl ?_
          refine z_iload_n X dX7_at_37 rfl ?_
          refine z_iload_n X dX7_at_38 rfl ?_
          refine z_callVi X (As := [_, _]) dX7_at_39 m_X6_value i_X6_value l_X7_90 (c_X6_value (zg E) hs1 (hm.1 t ht) (ho.1 t ht).1 w.toNat k.toNat (by omega) (by omega) (by omega) (by omega)) (by first | assumption | exact zbigA.o (by assumption)) rfl rfl rfl (Nat.le_of_ble_eq_true rfl) ⟨Nat.le_of_ble_eq_true rfl, Nat.le_of_ble_eq_true rfl⟩ ⟨Nat.le_of_ble_eq_true rfl, Nat.le_of_ble_eq_true rfl⟩ ⟨rfl, rfl⟩ (fun r2 m1 hm1 => ?_)
          refine z_ireturn (st := []) X rfl hQ dX7_at_42 ⟨rfl, _, rfl, ?_⟩
          obtain ⟨rfl, rfl⟩ := hm1
          refine ⟨rfl, ?_⟩
          unfold sp_at
          rw [if_neg (by omega), if_neg (by omega), Int.toNat_natCast]
        · refine z_ldc X dX7_at_32 q_X7_89 (-1000000002) (by decide) ?_
          refine z_ireturn (st := []) X rfl hQ dX7_at_34 ⟨rfl, _, rfl, ?_⟩
          refine ⟨rfl, ?_⟩
          unfold sp_at
          rw [if_neg (by omega), if_pos (by omega)]
    · refine z_ldc X dX7_at_19 q_X7_88 (-1000000001) (by decide) ?_
      refine z_ireturn (st := []) X rfl hQ dX7_at_21 ⟨rfl, _, rfl, ?_⟩
      refine ⟨rfl, ?_⟩
      unfold sp_at
      rw [if_pos (by omega)]
theorem c_X7_falls (G : zG) {A : zA} {m : zM} {b : Nat} {σ : zSt} {s n : Int} (hA : zmilA A b) (hm : zCR b m σ) (ho : zStok σ) (hs : zi32 s) (hn : zi32 n) : zMet G k_X7_falls [vr b, vi s, vi n] A m (zpi A (fun r m' => m = m' ∧ r = sp_falls σ s n)) := by
  obtain ⟨⟨hB, r0, r1, r2, r3, r4, r5, r6, r7, r8⟩, ⟨a1, a2, a3⟩, ⟨gG, gE, gP, gF, gT, gU⟩, hS, hD, hC⟩ := id hA
  refine zMet.of RX7 rfl (by decide +kernel) (Nat.le_of_ble_eq_true rfl) [some (vr b), some (vi s), some (vi n), none] rfl (fun E hG X hQ hNm => ?_)
  subst hG
  refine z_aload_n X dX7_falls_0 rfl ?_
  refine z_iload_n X dX7_falls_1 rfl ?_
  refine z_callVr X (As := [_]) dX7_falls_2 m_X7_sumAt i_X7_sumAt l_X7_61 (c_X7_sumAt (zg E) hA hs) (by first | assumption | exact zbigA.o (by assumption)) rfl rfl rfl (Nat.le_of_ble_eq_true rfl) ⟨Nat.le_of_ble_eq_true rfl, Nat.le_of_ble_eq_true rfl⟩ ⟨Nat.le_of_ble_eq_true rfl, Nat.le_of_ble_eq_true rfl⟩ ⟨rfl, rfl⟩ (fun f m1 hm1 => ?_)
  rcases f with _ | f
  · obtain ⟨rfl, hf⟩ := hm1
    refine z_astore_nN X dX7_falls_5 [_, _, _, _] (by decide) rfl ?_
    refine z_aload_nN X dX7_falls_6 rfl ?_
    refine z_ifnonnullN X dX7_falls_7 ?_
    refine z_iconst X dX7_falls_10 ?_
    refine z_ireturn (st := []) X rfl hQ dX7_falls_11 ⟨rfl, _, rfl, ?_⟩
    have h := hf.no
    refine ⟨rfl, ?_⟩
    unfold sp_falls
    rw [if_pos (by omega)]
  · obtain ⟨rfl, hf⟩ := hm1
    obtain ⟨t, ht, rfl, rfl⟩ := hf.yes
    have hs1 := (hS t ht).2
    have hs2 := hs1.1
    unfold zi32 at hn
    refine z_astore_n X dX7_falls_5 [_, _, _, _] (by decide) rfl ?_
    refine z_aload_n X dX7_falls_6 rfl ?_
    refine z_ifnonnull X dX7_falls_7 12 (by decide) ?_
    refine z_iload_n X dX7_falls_12 rfl ?_
    refine z_if_lt X dX7_falls_13 22 (by decide) (by omega) (fun h13 => ?_) (fun h13 => ?_)
    · refine z_bipush X dX7_falls_22 (by decide) ?_
      refine z_ireturn (st := []) X rfl hQ dX7_falls_24 ⟨rfl, _, rfl, ?_⟩
      refine ⟨rfl, ?_⟩
      unfold sp_falls
      rw [if_neg (by omega), if_pos (by omega)]
    · refine z_iload_n X dX7_falls_16 rfl ?_
      refine z_bipush X dX7_falls_17 (by decide) ?_
      refine z_icmp_le X dX7_falls_19 25 (by decide) (by omega) (by omega) (fun h19 => ?_) (fun h19 => ?_)
      · refine z_aload_n X dX7_falls_25 rfl ?_
        refine z_iconst X dX7_falls_26 ?_
        refine z_iconst X dX7_falls_27 ?_
        refine z_iload_n X dX7_falls_28 rfl ?_
        refine z_callVi X (As := [_, _, _]) dX7_falls_29 m_X6_firstFall i_X6_firstFall l_X7_94 (c_X6_firstFall (zg E) hs1 (hm.1 t ht) (ho.1 t ht).1 (ho.1 t ht).2 0 0 n.toNat rfl rfl (by omega) (by omega) (by omega) (by omega)) (by first | assumption | exact zbigA.o (by assumption)) rfl rfl rfl (Nat.le_of_ble_eq_true rfl) ⟨Nat.le_of_ble_eq_true rfl, Nat.le_of_ble_eq_true rfl⟩ ⟨Nat.le_of_ble_eq_true rfl, Nat.le_of_ble_eq_true rfl⟩ ⟨rfl, rfl⟩ (fun r2 m1 hm1 => ?_)
        refine z_ireturn (st := []) X rfl hQ dX7_falls_32 ⟨rfl, _, rfl, ?_⟩
        obtain ⟨rfl, rfl⟩ := hm1
        refine ⟨rfl, ?_⟩
        unfold sp_falls
        rw [if_neg (by omega), if_neg (by omega), Int.toNat_natCast]
        rfl
      · refine z_bipush X dX7_falls_22 (by decide) ?_
        refine z_ireturn (st := []) X rfl hQ dX7_falls_24 ⟨rfl, _, rfl, ?_⟩
        refine ⟨rfl, ?_⟩
        unfold sp_falls
        rw [if_neg (by omega), if_pos (by omega)]
theorem zdrM.h4 {m : zM} {d : Nat} {x : Option zDr} (h : zdrM m d x) : (m d 4 = 0 ∧ x = none) ∨ (m d 4 = 1 ∧ ∃ y, x = some y ∧ m d 5 = (y.1 : Int) ∧ m d 6 = (y.2.1 : Int) ∧ m d 7 = (y.2.2.1 : Int) ∧ zspn m d y.2.2.2) := by
  cases x with
  | none => exact Or.inl ⟨h, rfl⟩
  | some y => exact Or.inr ⟨h.1, y, rfl, h.2⟩
theorem c_X7_empty (G : zG) {A : zA} {m : zM} {b : Nat} {σ : zSt} {d : Int} (hA : zmilA A b) (hm : zCR b m σ) (ho : zStok σ) (hd : zi32 d) : zMet G k_X7_empty [vr b, vi d] A m (zpi A (fun r m' => zCR b m' (sp_empty σ d).2 ∧ zmo b m m' ∧ r = (sp_empty σ d).1)) := by
  obtain ⟨⟨hB, r0, r1, r2, r3, r4, r5, r6, r7, r8⟩, ⟨a1, a2, a3⟩, ⟨gG, gE, gP, gF, gT, gU⟩, hS, hD, hC⟩ := id hA
  refine zMet.of RX7 rfl (by decide +kernel) (Nat.le_of_ble_eq_true rfl) [some (vr b), some (vi d), none] rfl (fun E hG X hQ hNm => ?_)
  subst hG
  refine z_aload_n X dX7_empty_0 rfl ?_
  refine z_iload_n X dX7_empty_1 rfl ?_
  refine z_callVr X (As := [_]) dX7_empty_2 m_X7_drawerAt i_X7_drawerAt l_X7_98 (c_X7_drawerAt (zg E) hA hd) (by first | assumption | exact zbigA.o (by assumption)) rfl rfl rfl (Nat.le_of_ble_eq_true rfl) ⟨Nat.le_of_ble_eq_true rfl, Nat.le_of_ble_eq_true rfl⟩ ⟨Nat.le_of_ble_eq_true rfl, Nat.le_of_ble_eq_true rfl⟩ ⟨rfl, rfl⟩ (fun f m1 hm1 => ?_)
  rcases f with _ | f
  · obtain ⟨rfl, hf⟩ := hm1
    refine z_astore_nN X dX7_empty_5 [_, _, _] (by decide) rfl ?_
    refine z_aload_nN X dX7_empty_6 rfl ?_
    refine z_ifnonnullN X dX7_empty_7 ?_
    refine z_iconst X dX7_empty_10 ?_
    refine z_ireturn (st := []) X rfl hQ dX7_empty_11 ⟨rfl, _, rfl, ?_⟩
    have h := hf.no
    unfold sp_empty
    rw [if_pos (by omega)]
    exact ⟨hm, fun _ _ _ => rfl, rfl⟩
  · obtain ⟨rfl, hf⟩ := hm1
    obtain ⟨k, hk, rfl, rfl⟩ := hf.yes
    have hs1 := (hD k hk).2
    have hs2 := hs1.1
    obtain ⟨h5, hdr⟩ := hm.2.1 k hk
    have h4 := hdr.h4
    refine z_astore_n X dX7_empty_5 [_, _, _] (by decide) rfl ?_
    refine z_aload_n X dX7_empty_6 rfl ?_
    refine z_ifnonnull X dX7_empty_7 12 (by decide) ?_
    refine z_aload_n X dX7_empty_12 rfl ?_
    refine z_getI X dX7_empty_13 f_X7_114 rfl (by first | assumption | exact zbigA.o (by assumption)) ?_
    refine z_if_ne X dX7_empty_16 22 (by decide) (by omega) (fun h16 => ?_) (fun h16 => ?_)
    · refine z_aload_n X dX7_empty_22 rfl ?_
      refine z_iconst X dX7_empty_23 ?_
      refine z_putZ X dX7_empty_24 f_X7_114 (by first | exact Or.inl rfl | exact Or.inr rfl | omega) rfl rfl (by first | assumption | exact zbigA.o (by assumption)) ?_
      refine z_aload_n X dX7_empty_27 rfl ?_
      refine z_callVi X (As := []) dX7_empty_28 m_X5_terms i_X5_terms l_X7_110 (c_X5_terms (zg E) hs1) (by first | assumption | exact zbigA.o (by assumption)) rfl rfl rfl (Nat.le_of_ble_eq_true rfl) ⟨Nat.le_of_ble_eq_true rfl, Nat.le_of_ble_eq_true rfl⟩ ⟨Nat.le_of_ble_eq_true rfl, Nat.le_of_ble_eq_true rfl⟩ ⟨rfl, rfl⟩ (fun r5 m1 hm1 => ?_)
      refine z_ireturn (st := []) X rfl hQ dX7_empty_31 ⟨rfl, _, rfl, ?_⟩
      obtain ⟨rfl, rfl⟩ := hm1
      rcases h4 with ⟨h, _⟩ | ⟨_, y, e, e5, e6, e7, e8⟩
      · omega
      · unfold sp_empty
        rw [if_neg (by omega), Int.toNat_natCast, e]
        refine ⟨hm.dr (x := none) hk (zms_same _ _ _ _) (by rw [zms_nk _ _ _ _ _ (by omega)]; exact h5) (fun a j _ h => zms_nq _ _ _ _ _ (by omega)), fun a j ha => zms_nq _ _ _ _ _ (by omega), ?_⟩
        rw [zms_nk _ _ _ _ _ (by omega), zms_nk _ _ _ _ _ (by omega), e6, e7]
    · refine z_bipush X dX7_empty_19 (by decide) ?_
      refine z_ireturn (st := []) X rfl hQ dX7_empty_21 ⟨rfl, _, rfl, ?_⟩
      rcases h4 with ⟨_, e⟩ | ⟨h, _⟩
      · unfold sp_empty
        rw [if_neg (by omega), Int.toNat_natCast, e]
        exact ⟨hm, fun _ _ _ => rfl, rfl⟩
      · omega
theorem c_X7_span (G : zG) {A : zA} {m : zM} {b : Nat} {σ : zSt} {d w : Int} (hA : zmilA A b) (hm : zCR b m σ) (hd : zi32 d) (hw : zi32 w) : zMet G k_X7_span [vr b, vi d, vi w] A m (zpi A (fun r m' => m = m' ∧ r = sp_span σ d w)) := by
  obtain ⟨⟨hB, r0, r1, r2, r3, r4, r5, r6, r7, r8⟩, ⟨a1, a2, a3⟩, ⟨gG, gE, gP, gF, gT, gU⟩, hS, hD, hC⟩ := id hA
  refine zMet.of RX7 rfl (by decide +kernel) (Nat.le_of_ble_eq_true rfl) [some (vr b), some (vi d), some (vi w), none] rfl (fun E hG X hQ hNm => ?_)
  subst hG
  refine z_aload_n X dX7_span_0 rfl ?_
  refine z_iload_n X dX7_span_1 rfl ?_
  refine z_callVr X (As := [_]) dX7_span_2 m_X7_drawerAt i_X7_drawerAt l_X7_98 (c_X7_drawerAt (zg E) hA hd) (by first | assumption | exact zbigA.o (by assumption)) rfl rfl rfl (Nat.le_of_ble_eq_true rfl) ⟨Nat.le_of_ble_eq_true rfl, Nat.le_of_ble_eq_true rfl⟩ ⟨Nat.le_of_ble_eq_true rfl, Nat.le_of_ble_eq_true rfl⟩ ⟨rfl, rfl⟩ (fun f m1 hm1 => ?_)
  rcases f with _ | f
  · obtain ⟨rfl, hf⟩ := hm1
    refine z_astore_nN X dX7_span_5 [_, _, _, _] (by decide) rfl ?_
    refine z_aload_nN X dX7_span_6 rfl ?_
    refine z_ifnonnullN X dX7_span_7 ?_
    refine z_iconst X dX7_span_10 ?_
    refine z_ireturn (st := []) X rfl hQ dX7_span_11 ⟨rfl, _, rfl, ?_⟩
    have h := hf.no
    refine ⟨rfl, ?_⟩
    unfold sp_span
    rw [if_pos (by omega)]
  · obtain ⟨rfl, hf⟩ := hm1
    obtain ⟨k, hk, rfl, rfl⟩ := hf.yes
    have hs1 := (hD k hk).2
    have hs2 := hs1.1
    obtain ⟨h5, hdr⟩ := hm.2.1 k hk
    have h4 := hdr.h4
    unfold zi32 at hw
    refine z_astore_n X dX7_span_5 [_, _, _, _] (by decide) rfl ?_
    refine z_aload_n X dX7_span_6 rfl ?_
    refine z_ifnonnull X dX7_span_7 12 (by decide) ?_
    refine z_iload_n X dX7_span_12 rfl ?_
    refine z_if_lt X dX7_span_13 21 (by decide) (by omega) (fun h13 => ?_) (fun h13 => ?_)
    · refine z_bipush X dX7_span_21 (by decide) ?_
      refine z_ireturn (st := []) X rfl hQ dX7_span_23 ⟨rfl, _, rfl, ?_⟩
      refine ⟨rfl, ?_⟩
      unfold sp_span
      rw [if_neg (by omega), if_pos (by omega)]
    · refine z_iload_n X dX7_span_16 rfl ?_
      refine z_iconst X dX7_span_17 ?_
      refine z_icmp_le X dX7_span_18 24 (by decide) (by omega) (by omega) (fun h18 => ?_) (fun h18 => ?_)
      · refine z_aload_n X dX7_span_24 rfl ?_
        refine z_getI X dX7_span_25 f_X7_114 rfl (by first | assumption | exact zbigA.o (by assumption)) ?_
        refine z_if_ne X dX7_span_28 34 (by decide) (by omega) (fun h28 => ?_) (fun h28 => ?_)
        · refine z_iload_n X dX7_span_34 rfl ?_
          refine z_if_ne X dX7_span_35 45 (by decide) (by omega) (fun h35 => ?_) (fun h35 => ?_)
          · refine z_iload_n X dX7_span_45 rfl ?_
            refine z_iconst X dX7_span_46 ?_
            refine z_icmp_ne X dX7_span_47 57 (by decide) (by omega) (by omega) (fun h47 => ?_) (fun h47 => ?_)
            · refine z_aload_n X dX7_span_57 rfl ?_
              refine z_getI X dX7_span_58 f_X7_118 rfl (by first | assumption | exact zbigA.o (by assumption)) ?_
              refine z_ireturn (st := []) X rfl hQ dX7_span_61 ⟨rfl, _, rfl, ?_⟩
              refine ⟨rfl, ?_⟩
              rcases h4 with ⟨h, _⟩ | ⟨_, y, e, e5, e6, e7, e8⟩
              · omega
              · unfold sp_span
                rw [if_neg (by omega), if_neg (by omega), Int.toNat_natCast, e]
                obtain ⟨y1, y2, y3, y4⟩ := y
                first
                  | (show _ = if w = 0 then _ else _; rw [if_pos (by omega)]; exact e5)
                  | (show _ = if w = 0 then _ else if w = 1 then _ else _; rw [if_neg (by omega), if_pos (by omega)]; exact e6)
                  | (show _ = if w = 0 then _ else if w = 1 then _ else _; rw [if_neg (by omega), if_neg (by omega)]; exact e7)
            · refine z_aload_n X dX7_span_50 rfl ?_
              refine z_getI X dX7_span_51 f_X7_124 rfl (by first | assumption | exact zbigA.o (by assumption)) ?_
              refine z_goto X dX7_span_54 61 (by decide) ?_
              refine z_ireturn (st := []) X rfl hQ dX7_span_61 ⟨rfl, _, rfl, ?_⟩
              refine ⟨rfl, ?_⟩
              rcases h4 with ⟨h, _⟩ | ⟨_, y, e, e5, e6, e7, e8⟩
              · omega
              · unfold sp_span
                rw [if_neg (by omega), if_neg (by omega), Int.toNat_natCast, e]
                obtain ⟨y1, y2, y3, y4⟩ := y
                first
                  | (show _ = if w = 0 then _ else _; rw [if_pos (by omega)]; exact e5)
                  | (show _ = if w = 0 then _ else if w = 1 then _ else _; rw [if_neg (by omega), if_pos (by omega)]; exact e6)
                  | (show _ = if w = 0 then _ else if w = 1 then _ else _; rw [if_neg (by omega), if_neg (by omega)]; exact e7)
          · refine z_aload_n X dX7_span_38 rfl ?_
            refine z_getI X dX7_span_39 f_X7_121 rfl (by first | assumption | exact zbigA.o (by assumption)) ?_
            refine z_goto X dX7_span_42 61 (by decide) ?_
            refine z_ireturn (st := []) X rfl hQ dX7_span_61 ⟨rfl, _, rfl, ?_⟩
            refine ⟨rfl, ?_⟩
            rcases h4 with ⟨h, _⟩ | ⟨_, y, e, e5, e6, e7, e8⟩
            · omega
            · unfold sp_span
              rw [if_neg (by omega), if_neg (by omega), Int.toNat_natCast, e]
              obtain ⟨y1, y2, y3, y4⟩ := y
              first
                | (show _ = if w = 0 then _ else _; rw [if_pos (by omega)]; exact e5)
                | (show _ = if w = 0 then _ else if w = 1 then _ else _; rw [if_neg (by omega), if_pos (by omega)]; exact e6)
                | (show _ = if w = 0 then _ else if w = 1 then _ else _; rw [if_neg (by omega), if_neg (by omega)]; exact e7)
        · refine z_bipush X dX7_span_31 (by decide) ?_
          refine z_ireturn (st := []) X rfl hQ dX7_span_33 ⟨rfl, _, rfl, ?_⟩
          refine ⟨rfl, ?_⟩
          rcases h4 with ⟨_, e⟩ | ⟨h, _⟩
          · unfold sp_span
            rw [if_neg (by omega), if_neg (by omega), Int.toNat_natCast, e]
          · omega
      · refine z_bipush X dX7_span_21 (by decide) ?_
        refine z_ireturn (st := []) X rfl hQ dX7_span_23 ⟨rfl, _, rfl, ?_⟩
        refine ⟨rfl, ?_⟩
        unfold sp_span
        rw [if_neg (by omega), if_pos (by omega)]

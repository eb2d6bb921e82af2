/-! The law's loop -/
theorem law_loop {E : zCx} {b0 b L : Nat} {xs : Nat → Int32} {A : zA} (X : zOK E cL_law RL 4 ret room_1) (hX : zScr E b0 L xs) (hL : L ≤ 3072) (hA : zmilA A b) (hB : zmodA A (b + 149)) (hE : ∀ (m : zM) (i : Nat), zW E (166, 80481) A m 1117 [some (vr b0), some (vr b), some (vr (b + 149)), some (vi (i : Int))] []) :
    ∀ (n i : Nat) (m : zM) (σ : zSt), i ≤ L → L + 1 ≤ i + n → zCR b m σ → zMR (b + 149) m σ → zStok σ → zW E (166, 80481) A m 18 [some (vr b0), some (vr b), some (vr (b + 149)), some (vi (i : Int))] [] := by
  intro n
  induction n with
  | zero =>
    intro i m σ h1 h2
    exact absurd h2 (by omega)
  | succ n ih =>
    intro i m σ h1 h2 hm hq ho
    refine z_iload_n X dL_law_18 rfl ?_
    refine z_aload_n X dL_law_19 rfl ?_
    refine z_slen X hX dL_law_20 ?_
    refine z_bipush X dL_law_21 (by decide) ?_
    refine z_isub X dL_law_23 ?_
    refine z_icmp_gt X dL_law_24 1117 (by decide) (by omega) (by omega) (fun h24 => ?_) (fun h24 => ?_)
    · exact hE m i
    · have hi : i + 6 ≤ L := by omega
      have kk : ∀ m1 σ1, zCR b m1 σ1 → zMR (b + 149) m1 σ1 → zStok σ1 → zW E (166, 80481) A m1 1111 [some (vr b0), some (vr b), some (vr (b + 149)), some (vi (i : Int))] [] := by
        intro m1 σ1 g1 g2 g3
        refine z_iinc X dL_law_1111 rfl (fun y => [_, _, _, some (vi y)]) (fun _ => rfl) (fun x3 hx3 => ?_)
        have hx3 : x3 = ((i + 6 : Nat) : Int) := by omega
        subst hx3
        refine z_goto X dL_law_1114 18 (by decide) ?_
        exact ih (i + 6) m1 σ1 (by omega) (by omega) g1 g2 g3
      refine z_aload_n X dL_law_27 rfl ?_
      refine z_iload_n X dL_law_28 rfl ?_
      refine z_sld X hX i dL_law_29 rfl (by omega) (by omega) ?_
      refine z_bipush X dL_law_30 (by decide) ?_
      refine z_iand X dL_law_32 5 (by omega) (by decide) 32 (by decide) ?_
      have hw0 : 0 ≤ zx xs i % 32 ∧ zx xs i % 32 < 32 := by omega
      generalize zx xs i % 32 = w at hw0
      by_cases hw : w < 0 ∨ 25 < w
      · exact z_tableOut X dL_law_33 1111 (by omega) hw (by decide) (kk m σ hm hq ho)
      · obtain ⟨k, rfl⟩ : ∃ k : Nat, w = (k : Int) := ⟨w.toNat, by omega⟩
        match k, hw with
        | 0, _ => exact z_tableIn X dL_law_33 152 (by decide) (by decide) (by decide) rfl (by decide) (law_0 X hX hL hA hB hm hq ho hi kk)
        | 1, _ => exact z_tableIn X dL_law_33 215 (by decide) (by decide) (by decide) rfl (by decide) (law_1 X hX hL hA hB hm hq ho hi kk)
        | 2, _ => exact z_tableIn X dL_law_33 258 (by decide) (by decide) (by decide) rfl (by decide) (law_2 X hX hL hA hB hm hq ho hi kk)
        | 3, _ => exact z_tableIn X dL_law_33 301 (by decide) (by decide) (by decide) rfl (by decide) (law_3 X hX hL hA hB hm hq ho hi kk)
        | 4, _ => exact z_tableIn X dL_law_33 334 (by decide) (by decide) (by decide) rfl (by decide) (law_4 X hX hL hA hB hm hq ho hi kk)
        | 5, _ => exact z_tableIn X dL_law_33 387 (by decide) (by decide) (by decide) rfl (by decide) (law_5 X hX hL hA hB hm hq ho hi kk)
        | 6, _ => exact z_tableIn X dL_law_33 420 (by decide) (by decide) (by decide) rfl (by decide) (law_6 X hX hL hA hB hm hq ho hi kk)
        | 7, _ => exact z_tableIn X dL_law_33 463 (by decide) (by decide) (by decide) rfl (by decide) (law_7 X hX hL hA hB hm hq ho hi kk)
        | 8, _ => exact z_tableIn X dL_law_33 486 (by decide) (by decide) (by decide) rfl (by decide) (law_8 X hX hL hA hB hm hq ho hi kk)
        | 9, _ => exact z_tableIn X dL_law_33 519 (by decide) (by decide) (by decide) rfl (by decide) (law_9 X hX hL hA hB hm hq ho hi kk)
        | 10, _ => exact z_tableIn X dL_law_33 552 (by decide) (by decide) (by decide) rfl (by decide) (law_10 X hX hL hA hB hm hq ho hi kk)
        | 11, _ => exact z_tableIn X dL_law_33 585 (by decide) (by decide) (by decide) rfl (by decide) (law_11 X hX hL hA hB hm hq ho hi kk)
        | 12, _ => exact z_tableIn X dL_law_33 628 (by decide) (by decide) (by decide) rfl (by decide) (law_12 X hX hL hA hB hm hq ho hi kk)
        | 13, _ => exact z_tableIn X dL_law_33 671 (by decide) (by decide) (by decide) rfl (by decide) (law_13 X hX hL hA hB hm hq ho hi kk)
        | 14, _ => exact z_tableIn X dL_law_33 704 (by decide) (by decide) (by decide) rfl (by decide) (law_14 X hX hL hA hB hm hq ho hi kk)
        | 15, _ => exact z_tableIn X dL_law_33 757 (by decide) (by decide) (by decide) rfl (by decide) (law_15 X hX hL hA hB hm hq ho hi kk)
        | 16, _ => exact z_tableIn X dL_law_33 780 (by decide) (by decide) (by decide) rfl (by decide) (law_16 X hX hL hA hB hm hq ho hi kk)
        | 17, _ => exact z_tableIn X dL_law_33 823 (by decide) (by decide) (by decide) rfl (by decide) (law_17 X hX hL hA hB hm hq ho hi kk)
        | 18, _ => exact z_tableIn X dL_law_33 876 (by decide) (by decide) (by decide) rfl (by decide) (law_18 X hX hL hA hB hm hq ho hi kk)
        | 19, _ => exact z_tableIn X dL_law_33 919 (by decide) (by decide) (by decide) rfl (by decide) (law_19 X hX hL hA hB hm hq ho hi kk)
        | 20, _ => exact z_tableIn X dL_law_33 932 (by decide) (by decide) (by decide) rfl (by decide) (law_20 X hX hL hA hB hm hq ho hi kk)
        | 21, _ => exact z_tableIn X dL_law_33 946 (by decide) (by decide) (by decide) rfl (by decide) (law_21 X hX hL hA hB hm hq ho hi kk)
        | 22, _ => exact z_tableIn X dL_law_33 969 (by decide) (by decide) (by decide) rfl (by decide) (law_22 X hX hL hA hB hm hq ho hi kk)
        | 23, _ => exact z_tableIn X dL_law_33 992 (by decide) (by decide) (by decide) rfl (by decide) (law_23 X hX hL hA hB hm hq ho hi kk)
        | 24, _ => exact z_tableIn X dL_law_33 1025 (by decide) (by decide) (by decide) rfl (by decide) (law_24 X hX hL hA hB hm hq ho hi kk)
        | 25, _ => exact z_tableIn X dL_law_33 1048 (by decide) (by decide) (by decide) rfl (by decide) (law_25 X hX hL hA hB hm hq ho hi kk)
        | k + 26, h => exact absurd h (by omega)

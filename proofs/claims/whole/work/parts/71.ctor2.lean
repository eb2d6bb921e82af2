/-! Constructors: four numbers in an object -/
section
variable {E : zCx} {cc : ByteArray} {own : String} {nL : Nat} {ret : Option FieldType} {rm : Room} {cs : Nat × Nat} {A : zA} {m : zM} {pc : Nat} {lv : zLv}
/-- new Big(N), putfield -/
theorem z_newBigF (X : zOK E cc own nL ret rm) {idx idx2 idx3 len k g ci N : Nat} (hd1 : decode cc pc = .ok (.new idx, 3)) (hd2 : decode cc (pc + 3) = .ok (.dup, 1)) (hpush : ∀ (cs : Nat × Nat) (A : zA) (m : zM) (st : List Value), zW E cs A m (pc + 3 + 1 + len) lv (vi (N : Int) :: st) → zW E cs A m (pc + 3 + 1) lv st) (hd3 : decode cc (pc + 3 + 1 + len) = .ok (.invokespecial idx2, 3)) (hl : zLk own idx2 (k_X0_init N)) (hd4 : decode cc (pc + 3 + 1 + len + 3) = .ok (.putfield idx3, 3)) (w1 : Cond.classLink own idx (zC 0) ∈ zGB) (hN : 1 ≤ N ∧ N < 100000) (hroom : 1 + 1 ≤ rm.frames ∧ 8 + (2 + 11) + 20 ≤ rm.locals) (hcells : cs.1 + 1 + 1 ≤ rm.cells) (hslots : cs.2 + zN 0 + N ≤ rm.slots)
    (hf : zFl own idx3 ci k) (hn : zNm E "<init>") (hlink : Cond.fieldLink own idx3 (zT ci k).1 (zT ci k).2.1 (zT ci k).2.2.1 ∈ zGB) (hcl : zC ci = own) (hdecl : (zT ci k).1 = own) (hk : zkd ci k = 2) (htyF : ∀ a, narrow (zty ci k) (vr a) = vr a ∧ fits (zty ci k) (vr a) = true) (hfin : zfin ci k = true) (hs : A.1 g = some (.inl ci)) (hg : g < A.2.2)
    (kk : ∀ A' m', zbigA A' A.2.2 N → A'.2.1 g k = some A.2.2 → A'.2.2 = A.2.2 + 2 → zGr g k A m A' m' → zW E (cs.1 + 1 + 1, cs.2 + zN 0 + N) A' m' (pc + 3 + 1 + len + 3 + 3) lv []) : zW E cs A m pc lv [vr g] := by
  refine z_new X hd1 (by decide) w1 ia_0 in_0 (by omega) (by omega) ?_
  refine z_dup X hd2 rfl ?_
  refine hpush _ _ _ _ ?_
  refine z_callIc X (As := [vi (N : Int)]) (rest := [vr A.2.2, vr g]) hd3 rfl (m_X0_init N) i_X0_init hl (c_X0_init (zg E) (q := A.2.2) (by simp [znew, zsh]) (by simp [znew]) hN) rfl rfl (Nat.le_of_ble_eq_true rfl) hroom ⟨hcells, hslots⟩ (fun A1 m1 h => ?_)
  obtain ⟨h1, h2, h3⟩ := h
  have hs1 : A1.1 g = some (.inl ci) := (h3.1 g hg).trans (by simp [znew, zsh, show g ≠ A.2.2 by omega, hs])
  refine z_putR X hd4 hf hn hlink hcl hdecl hk (htyF _) hfin hs1 (kk _ _ (h1.g rfl rfl ?_) ?_ h2 ⟨fun a ha => ?_, fun a j ha hj => ?_, fun a j ha => ?_⟩)
  · show zrs A1.2.1 g k (some A.2.2) A.2.2 0 = _
    unfold zrs
    rw [if_neg (by omega)]
  · simp [zrs]
  · exact (h3.1 a ha).trans (by simp [znew, zsh, show a ≠ A.2.2 by omega])
  · show zrs A1.2.1 g k (some A.2.2) a j = _
    unfold zrs
    rw [if_neg hj, h3.2.1 a j ha]
    simp [znew, zrz, show a ≠ A.2.2 by omega]
  · exact (h3.2.2 a j ha).trans (by simp [zmz, show a ≠ A.2.2 by omega])
end
theorem c_X4_init (G : zG) {A : zA} {m : zM} {g : Nat} (hs : A.1 g = some (.inl 4)) (hn : A.2.2 = g + 1) (h0 : ∀ j, m g j = 0) : zMet G k_X4_init [vr g] A m (zpc (fun A' m' => (zgrA A' g ∧ ∀ j, m' g j = 0) ∧ A'.2.2 = g + 9 ∧ zFr g A m A' m')) := by
  refine zMet.of RX4 rfl (by decide +kernel) (Nat.le_of_ble_eq_true rfl) [some (vr g)] rfl (fun E hG X hQ hNm => ?_)
  subst hG
  refine z_aload_n X dX4_init_0 rfl ?_
  refine z_objInit X dX4_init_1 l_X4_3 w_objLinkless w_objCode (by decide) (Nat.le_of_ble_eq_true rfl) ?_
  refine z_aload_n X dX4_init_4 rfl ?_
  refine z_newBigF X (len := 3) (k := 0) (g := g) (N := 170) dX4_init_5 dX4_init_8 (fun cs A m st h => z_sipush X dX4_init_9 (by decide) h) dX4_init_12 (l_X4_11 170) dX4_init_15 c_X4_9 (by omega) ⟨Nat.le_of_ble_eq_true rfl, Nat.le_of_ble_eq_true rfl⟩ (Nat.le_of_ble_eq_true rfl) (Nat.le_of_ble_eq_true rfl) f_X4_14 hNm fw_X4_14 rfl rfl rfl (fun _ => ⟨rfl, rfl⟩) rfl hs (by omega) (fun A0 m0 b0 r0 n0 g0 => ?_)
  have hs0 := (g0.1 g (by omega)).trans hs
  refine z_aload_n X dX4_init_18 rfl ?_
  refine z_newBigF X (len := 3) (k := 1) (g := g) (N := 170) dX4_init_19 dX4_init_22 (fun cs A m st h => z_sipush X dX4_init_23 (by decide) h) dX4_init_26 (l_X4_11 170) dX4_init_29 c_X4_9 (by omega) ⟨Nat.le_of_ble_eq_true rfl, Nat.le_of_ble_eq_true rfl⟩ (Nat.le_of_ble_eq_true rfl) (Nat.le_of_ble_eq_true rfl) f_X4_20 hNm fw_X4_20 rfl rfl rfl (fun _ => ⟨rfl, rfl⟩) rfl hs0 (by omega) (fun A1 m1 b1 r1 n1 g1 => ?_)
  have hs1 := (g1.1 g (by omega)).trans hs0
  refine z_aload_n X dX4_init_32 rfl ?_
  refine z_newBigF X (len := 3) (k := 2) (g := g) (N := 170) dX4_init_33 dX4_init_36 (fun cs A m st h => z_sipush X dX4_init_37 (by decide) h) dX4_init_40 (l_X4_11 170) dX4_init_43 c_X4_9 (by omega) ⟨Nat.le_of_ble_eq_true rfl, Nat.le_of_ble_eq_true rfl⟩ (Nat.le_of_ble_eq_true rfl) (Nat.le_of_ble_eq_true rfl) f_X4_23 hNm fw_X4_23 rfl rfl rfl (fun _ => ⟨rfl, rfl⟩) rfl hs1 (by omega) (fun A2 m2 b2 r2 n2 g2 => ?_)
  have hs2 := (g2.1 g (by omega)).trans hs1
  refine z_aload_n X dX4_init_46 rfl ?_
  refine z_newBigF X (len := 3) (k := 3) (g := g) (N := 170) dX4_init_47 dX4_init_50 (fun cs A m st h => z_sipush X dX4_init_51 (by decide) h) dX4_init_54 (l_X4_11 170) dX4_init_57 c_X4_9 (by omega) ⟨Nat.le_of_ble_eq_true rfl, Nat.le_of_ble_eq_true rfl⟩ (Nat.le_of_ble_eq_true rfl) (Nat.le_of_ble_eq_true rfl) f_X4_26 hNm fw_X4_26 rfl rfl rfl (fun _ => ⟨rfl, rfl⟩) rfl hs2 (by omega) (fun A3 m3 b3 r3 n3 g3 => ?_)
  have hs3 := (g3.1 g (by omega)).trans hs2
  have e0 : A0.2.2 = g + 3 := by omega
  have e1 : A1.2.2 = g + 5 := by omega
  have e2 : A2.2.2 = g + 7 := by omega
  have e3 : A3.2.2 = g + 9 := by omega
  rw [hn] at b0 r0
  rw [e0] at b1 r1
  rw [e1] at b2 r2
  rw [e2] at b3 r3
  have b0 := ((b0.x g1 (by omega)).x g2 (by omega)).x g3 (by omega)
  have b1 := (b1.x g2 (by omega)).x g3 (by omega)
  have b2 := b2.x g3 (by omega)
  have r0 := (g3.2.1 g 0 (by omega) (by omega)).trans ((g2.2.1 g 0 (by omega) (by omega)).trans ((g1.2.1 g 0 (by omega) (by omega)).trans r0))
  have r1 := (g3.2.1 g 1 (by omega) (by omega)).trans ((g2.2.1 g 1 (by omega) (by omega)).trans r1)
  have r2 := (g3.2.1 g 2 (by omega) (by omega)).trans r2
  refine z_return (st := []) X rfl hQ dX4_init_60 ⟨rfl, ⟨⟨hs3, ⟨r0, r1, r2, r3⟩, b0, b1, b2, b3⟩, fun j => ?_⟩, e3, ?_⟩
  · exact (g3.2.2 g j (by omega)).trans ((g2.2.2 g j (by omega)).trans ((g1.2.2 g j (by omega)).trans ((g0.2.2 g j (by omega)).trans (h0 j))))
  · exact (((g0.fr (n := g) (by omega) (by omega)).t (g1.fr (n := g) (by omega) (by omega)) (by omega)).t (g2.fr (n := g) (by omega) (by omega)) (by omega)).t (g3.fr (n := g) (by omega) (by omega)) (by omega)
theorem c_X2_init (G : zG) {A : zA} {m : zM} {g : Nat} (hs : A.1 g = some (.inl 2)) (hn : A.2.2 = g + 1) (h0 : ∀ j, m g j = 0) : zMet G k_X2_init [vr g] A m (zpc (fun A' m' => (zencA A' g ∧ ∀ j, m' g j = 0) ∧ A'.2.2 = g + 9 ∧ zFr g A m A' m')) := by
  refine zMet.of RX2 rfl (by decide +kernel) (Nat.le_of_ble_eq_true rfl) [some (vr g)] rfl (fun E hG X hQ hNm => ?_)
  subst hG
  refine z_aload_n X dX2_init_0 rfl ?_
  refine z_objInit X dX2_init_1 l_X2_3 w_objLinkless w_objCode (by decide) (Nat.le_of_ble_eq_true rfl) ?_
  refine z_aload_n X dX2_init_4 rfl ?_
  refine z_newBigF X (len := 3) (k := 0) (g := g) (N := 660) dX2_init_5 dX2_init_8 (fun cs A m st h => z_sipush X dX2_init_9 (by decide) h) dX2_init_12 (l_X2_11 660) dX2_init_15 c_X2_9 (by omega) ⟨Nat.le_of_ble_eq_true rfl, Nat.le_of_ble_eq_true rfl⟩ (Nat.le_of_ble_eq_true rfl) (Nat.le_of_ble_eq_true rfl) f_X2_14 hNm fw_X2_14 rfl rfl rfl (fun _ => ⟨rfl, rfl⟩) rfl hs (by omega) (fun A0 m0 b0 r0 n0 g0 => ?_)
  have hs0 := (g0.1 g (by omega)).trans hs
  refine z_aload_n X dX2_init_18 rfl ?_
  refine z_newBigF X (len := 3) (k := 1) (g := g) (N := 660) dX2_init_19 dX2_init_22 (fun cs A m st h => z_sipush X dX2_init_23 (by decide) h) dX2_init_26 (l_X2_11 660) dX2_init_29 c_X2_9 (by omega) ⟨Nat.le_of_ble_eq_true rfl, Nat.le_of_ble_eq_true rfl⟩ (Nat.le_of_ble_eq_true rfl) (Nat.le_of_ble_eq_true rfl) f_X2_20 hNm fw_X2_20 rfl rfl rfl (fun _ => ⟨rfl, rfl⟩) rfl hs0 (by omega) (fun A1 m1 b1 r1 n1 g1 => ?_)
  have hs1 := (g1.1 g (by omega)).trans hs0
  refine z_aload_n X dX2_init_32 rfl ?_
  refine z_newBigF X (len := 3) (k := 2) (g := g) (N := 660) dX2_init_33 dX2_init_36 (fun cs A m st h => z_sipush X dX2_init_37 (by decide) h) dX2_init_40 (l_X2_11 660) dX2_init_43 c_X2_9 (by omega) ⟨Nat.le_of_ble_eq_true rfl, Nat.le_of_ble_eq_true rfl⟩ (Nat.le_of_ble_eq_true rfl) (Nat.le_of_ble_eq_true rfl) f_X2_23 hNm fw_X2_23 rfl rfl rfl (fun _ => ⟨rfl, rfl⟩) rfl hs1 (by omega) (fun A2 m2 b2 r2 n2 g2 => ?_)
  have hs2 := (g2.1 g (by omega)).trans hs1
  refine z_aload_n X dX2_init_46 rfl ?_
  refine z_newBigF X (len := 3) (k := 3) (g := g) (N := 660) dX2_init_47 dX2_init_50 (fun cs A m st h => z_sipush X dX2_init_51 (by decide) h) dX2_init_54 (l_X2_11 660) dX2_init_57 c_X2_9 (by omega) ⟨Nat.le_of_ble_eq_true rfl, Nat.le_of_ble_eq_true rfl⟩ (Nat.le_of_ble_eq_true rfl) (Nat.le_of_ble_eq_true rfl) f_X2_26 hNm fw_X2_26 rfl rfl rfl (fun _ => ⟨rfl, rfl⟩) rfl hs2 (by omega) (fun A3 m3 b3 r3 n3 g3 => ?_)
  have hs3 := (g3.1 g (by omega)).trans hs2
  have e0 : A0.2.2 = g + 3 := by omega
  have e1 : A1.2.2 = g + 5 := by omega
  have e2 : A2.2.2 = g + 7 := by omega
  have e3 : A3.2.2 = g + 9 := by omega
  rw [hn] at b0 r0
  rw [e0] at b1 r1
  rw [e1] at b2 r2
  rw [e2] at b3 r3
  have b0 := ((b0.x g1 (by omega)).x g2 (by omega)).x g3 (by omega)
  have b1 := (b1.x g2 (by omega)).x g3 (by omega)
  have b2 := b2.x g3 (by omega)
  have r0 := (g3.2.1 g 0 (by omega) (by omega)).trans ((g2.2.1 g 0 (by omega) (by omega)).trans ((g1.2.1 g 0 (by omega) (by omega)).trans r0))
  have r1 := (g3.2.1 g 1 (by omega) (by omega)).trans ((g2.2.1 g 1 (by omega) (by omega)).trans r1)
  have r2 := (g3.2.1 g 2 (by omega) (by omega)).trans r2
  refine z_return (st := []) X rfl hQ dX2_init_60 ⟨rfl, ⟨⟨hs3, ⟨r0, r1, r2, r3⟩, b0, b1, b2, b3⟩, fun j => ?_⟩, e3, ?_⟩
  · exact (g3.2.2 g j (by omega)).trans ((g2.2.2 g j (by omega)).trans ((g1.2.2 g j (by omega)).trans ((g0.2.2 g j (by omega)).trans (h0 j))))
  · exact (((g0.fr (n := g) (by omega) (by omega)).t (g1.fr (n := g) (by omega) (by omega)) (by omega)).t (g2.fr (n := g) (by omega) (by omega)) (by omega)).t (g3.fr (n := g) (by omega) (by omega)) (by omega)
theorem c_X5_init (G : zG) {A : zA} {m : zM} {g : Nat} (hs : A.1 g = some (.inl 5)) (hn : A.2.2 = g + 1) (h0 : ∀ j, m g j = 0) : zMet G k_X5_init [vr g] A m (zpc (fun A' m' => (zspanA A' g ∧ ∀ j, m' g j = 0) ∧ A'.2.2 = g + 9 ∧ zFr g A m A' m')) := by
  refine zMet.of RX5 rfl (by decide +kernel) (Nat.le_of_ble_eq_true rfl) [some (vr g)] rfl (fun E hG X hQ hNm => ?_)
  subst hG
  refine z_aload_n X dX5_init_0 rfl ?_
  refine z_objInit X dX5_init_1 l_X5_3 w_objLinkless w_objCode (by decide) (Nat.le_of_ble_eq_true rfl) ?_
  refine z_aload_n X dX5_init_4 rfl ?_
  refine z_newBigF X (len := 2) (k := 0) (g := g) (N := 85) dX5_init_5 dX5_init_8 (fun cs A m st h => z_bipush X dX5_init_9 (by decide) h) dX5_init_11 (l_X5_11 85) dX5_init_14 c_X5_9 (by omega) ⟨Nat.le_of_ble_eq_true rfl, Nat.le_of_ble_eq_true rfl⟩ (Nat.le_of_ble_eq_true rfl) (Nat.le_of_ble_eq_true rfl) f_X5_14 hNm fw_X5_14 rfl rfl rfl (fun _ => ⟨rfl, rfl⟩) rfl hs (by omega) (fun A0 m0 b0 r0 n0 g0 => ?_)
  have hs0 := (g0.1 g (by omega)).trans hs
  refine z_aload_n X dX5_init_17 rfl ?_
  refine z_newBigF X (len := 2) (k := 1) (g := g) (N := 85) dX5_init_18 dX5_init_21 (fun cs A m st h => z_bipush X dX5_init_22 (by decide) h) dX5_init_24 (l_X5_11 85) dX5_init_27 c_X5_9 (by omega) ⟨Nat.le_of_ble_eq_true rfl, Nat.le_of_ble_eq_true rfl⟩ (Nat.le_of_ble_eq_true rfl) (Nat.le_of_ble_eq_true rfl) f_X5_20 hNm fw_X5_20 rfl rfl rfl (fun _ => ⟨rfl, rfl⟩) rfl hs0 (by omega) (fun A1 m1 b1 r1 n1 g1 => ?_)
  have hs1 := (g1.1 g (by omega)).trans hs0
  refine z_aload_n X dX5_init_30 rfl ?_
  refine z_newBigF X (len := 2) (k := 2) (g := g) (N := 85) dX5_init_31 dX5_init_34 (fun cs A m st h => z_bipush X dX5_init_35 (by decide) h) dX5_init_37 (l_X5_11 85) dX5_init_40 c_X5_9 (by omega) ⟨Nat.le_of_ble_eq_true rfl, Nat.le_of_ble_eq_true rfl⟩ (Nat.le_of_ble_eq_true rfl) (Nat.le_of_ble_eq_true rfl) f_X5_23 hNm fw_X5_23 rfl rfl rfl (fun _ => ⟨rfl, rfl⟩) rfl hs1 (by omega) (fun A2 m2 b2 r2 n2 g2 => ?_)
  have hs2 := (g2.1 g (by omega)).trans hs1
  refine z_aload_n X dX5_init_43 rfl ?_
  refine z_newBigF X (len := 3) (k := 3) (g := g) (N := 170) dX5_init_44 dX5_init_47 (fun cs A m st h => z_sipush X dX5_init_48 (by decide) h) dX5_init_51 (l_X5_11 170) dX5_init_54 c_X5_9 (by omega) ⟨Nat.le_of_ble_eq_true rfl, Nat.le_of_ble_eq_true rfl⟩ (Nat.le_of_ble_eq_true rfl) (Nat.le_of_ble_eq_true rfl) f_X5_26 hNm fw_X5_26 rfl rfl rfl (fun _ => ⟨rfl, rfl⟩) rfl hs2 (by omega) (fun A3 m3 b3 r3 n3 g3 => ?_)
  have hs3 := (g3.1 g (by omega)).trans hs2
  have e0 : A0.2.2 = g + 3 := by omega
  have e1 : A1.2.2 = g + 5 := by omega
  have e2 : A2.2.2 = g + 7 := by omega
  have e3 : A3.2.2 = g + 9 := by omega
  rw [hn] at b0 r0
  rw [e0] at b1 r1
  rw [e1] at b2 r2
  rw [e2] at b3 r3
  have b0 := ((b0.x g1 (by omega)).x g2 (by omega)).x g3 (by omega)
  have b1 := (b1.x g2 (by omega)).x g3 (by omega)
  have b2 := b2.x g3 (by omega)
  have r0 := (g3.2.1 g 0 (by omega) (by omega)).trans ((g2.2.1 g 0 (by omega) (by omega)).trans ((g1.2.1 g 0 (by omega) (by omega)).trans r0))
  have r1 := (g3.2.1 g 1 (by omega) (by omega)).trans ((g2.2.1 g 1 (by omega) (by omega)).trans r1)
  have r2 := (g3.2.1 g 2 (by omega) (by omega)).trans r2
  refine z_return (st := []) X rfl hQ dX5_init_57 ⟨rfl, ⟨⟨hs3, ⟨r0, r1, r2, r3⟩, b0, b1, b2, b3⟩, fun j => ?_⟩, e3, ?_⟩
  · exact (g3.2.2 g j (by omega)).trans ((g2.2.2 g j (by omega)).trans ((g1.2.2 g j (by omega)).trans ((g0.2.2 g j (by omega)).trans (h0 j))))
  · exact (((g0.fr (n := g) (by omega) (by omega)).t (g1.fr (n := g) (by omega) (by omega)) (by omega)).t (g2.fr (n := g) (by omega) (by omega)) (by omega)).t (g3.fr (n := g) (by omega) (by omega)) (by omega)

/-! Constructors of the class's parts -/
/-- addresses below n are as they were -/
def zFr (n : Nat) (A : zA) (m : zM) (A' : zA) (m' : zM) : Prop := (∀ a, a < n → A'.1 a = A.1 a) ∧ (∀ a j, a < n → A'.2.1 a j = A.2.1 a j) ∧ ∀ a j, a < n → m' a j = m a j
theorem zFr.r {n : Nat} {A : zA} {m : zM} : zFr n A m A m := ⟨fun _ _ => rfl, fun _ _ _ => rfl, fun _ _ _ => rfl⟩
theorem zFr.t {n k : Nat} {A A1 A2 : zA} {m m1 m2 : zM} (h : zFr n A m A1 m1) (g : zFr k A1 m1 A2 m2) (hk : n ≤ k) : zFr n A m A2 m2 := ⟨fun a ha => (g.1 a (by omega)).trans (h.1 a ha), fun a j ha => (g.2.1 a j (by omega)).trans (h.2.1 a j ha), fun a j ha => (g.2.2 a j (by omega)).trans (h.2.2 a j ha)⟩
/-- but for the reference (g, k) -/
def zGr (g k : Nat) (A : zA) (m : zM) (A' : zA) (m' : zM) : Prop := (∀ a, a < A.2.2 → A'.1 a = A.1 a) ∧ (∀ a j, a < A.2.2 → ¬ (a = g ∧ j = k) → A'.2.1 a j = A.2.1 a j) ∧ ∀ a j, a < A.2.2 → m' a j = m a j
theorem zGr.fr {g k n : Nat} {A A' : zA} {m m' : zM} (h : zGr g k A m A' m') (hn : n ≤ g) (hg : g < A.2.2) : zFr n A m A' m' := ⟨fun a ha => h.1 a (by omega), fun a j ha => h.2.1 a j (by omega) (by omega), fun a j ha => h.2.2 a j (by omega)⟩
theorem zbigA.g {A A' : zA} {q N : Nat} (h : zbigA A q N) (h1 : A'.1 q = A.1 q) (h2 : A'.1 (q + 1) = A.1 (q + 1)) (h3 : A'.2.1 q 0 = A.2.1 q 0) : zbigA A' q N := ⟨h1.trans h.1, h3.trans h.2.1, h2.trans h.2.2.1, h.2.2.2⟩
theorem zbigA.x {A A' : zA} {m m' : zM} {q N g k : Nat} (h : zbigA A q N) (hg : zGr g k A m A' m') (hq : q + 1 < A.2.2 ∧ q ≠ g) : zbigA A' q N := h.g (hg.1 _ (by omega)) (hg.1 _ (by omega)) (hg.2.1 _ _ (by omega) (by omega))
theorem zbigA.f {A A' : zA} {m m' : zM} {q N n : Nat} (h : zbigA A q N) (hg : zFr n A m A' m') (hq : q + 1 < n) : zbigA A' q N := h.g (hg.1 _ (by omega)) (hg.1 _ (by omega)) (hg.2.1 _ _ (by omega))
section
variable {E : zCx} {cc : ByteArray} {own : String} {nL : Nat} {ret : Option FieldType} {rm : Room} {cs : Nat × Nat} {A : zA} {m : zM} {pc : Nat} {lv : zLv} {st : List Value}
/-- newarray, putfield -/
theorem z_newarrF (X : zOK E cc own nL ret rm) {atype : ArrayType} {t n idx ci k q : Nat} {i : Int} (hd : decode cc pc = .ok (.newarray atype, 2)) (hd2 : decode cc (pc + 2) = .ok (.putfield idx, 3)) (ht : t < 2) (hty : newarray.typeOf atype = zaT t) (w1 : Cond.arrayClass (zaT t) ∈ zGB) (hi : i = (n : Int)) (hn0 : n < 100000000) (hcells : cs.1 + 1 ≤ rm.cells) (hslots : cs.2 + n ≤ rm.slots)
    (hf : zFl own idx ci k) (hn : zNm E "<init>") (hlink : Cond.fieldLink own idx (zT ci k).1 (zT ci k).2.1 (zT ci k).2.2.1 ∈ zGB) (hcl : zC ci = own) (hdecl : (zT ci k).1 = own) (hk : zkd ci k = 2) (htyF : ∀ a, narrow (zty ci k) (vr a) = vr a ∧ fits (zty ci k) (vr a) = true) (hfin : zfin ci k = true) (hs : A.1 q = some (.inl ci)) (hq : q < A.2.2)
    (kk : ∀ A' m', A'.1 A.2.2 = some (.inr (t, n)) → A'.2.1 q k = some A.2.2 → A'.2.2 = A.2.2 + 1 → (∀ j, m' A.2.2 j = 0) → zGr q k A m A' m' → zW E (cs.1 + 1, cs.2 + n) A' m' (pc + 2 + 3) lv st) : zW E cs A m pc lv (vi i :: vr q :: st) := by
  refine z_newarr X hd ht hty w1 hi hn0 hcells hslots ?_
  have hs' : (znew A (.inr (t, n))).1 q = some (.inl ci) := by simp [znew, zsh, show q ≠ A.2.2 by omega, hs]
  refine z_putR X hd2 hf hn hlink hcl hdecl hk (htyF _) hfin hs' (kk _ _ ?_ ?_ ?_ ?_ ⟨fun a ha => ?_, fun a j ha hj => ?_, fun a j ha => ?_⟩)
  · simp [znew, zsh]
  · simp [znew, zrs]
  · simp [znew]
  · intro j; simp [zmz]
  · simp [znew, zsh, show a ≠ A.2.2 by omega]
  · show zrs (zrz A.2.1 A.2.2) q k (some A.2.2) a j = _
    unfold zrs zrz
    rw [if_neg hj, if_neg (by omega)]
  · simp [zmz, show a ≠ A.2.2 by omega]
theorem z_callIc (X : zOK E cc own nL ret rm) {idx n b : Nat} {y : MethodName} {bytes : ByteArray} {maxL : Nat} {rmk : Room} {As rest : List Value} {P : zA → zM → Prop} (hd : decode cc pc = .ok (.invokespecial idx, 3)) (hy : y.name = "<init>") (hw : zMw (y, bytes, maxL, none, rmk) n) (hi : Cond.instanceMethod y ∈ zGB) (hl : zLk own idx (y, bytes, maxL, none, rmk)) (hM : zMet (zg E) (y, bytes, maxL, none, rmk) (vr b :: As) A m (zpc P))
    (hst : st = As.reverse ++ vr b :: rest) (hlen : As.length = n) (hrest : (rest.map fun v => v.category).sum ≤ 8) (hroom : rmk.frames + 1 ≤ rm.frames ∧ 8 + (maxL + 11) + rmk.locals ≤ rm.locals) (hf : cs.1 + rmk.cells ≤ rm.cells ∧ cs.2 + rmk.slots ≤ rm.slots)
    (kk : ∀ A' m', P A' m' → zW E (cs.1 + rmk.cells, cs.2 + rmk.slots) A' m' (pc + 3) lv rest) : zW E cs A m pc lv st :=
  z_callI X hd hy hw hi hl hM hst hlen hrest hroom hf (fun r A' m' h => by obtain ⟨rfl, h⟩ := h; exact kk A' m' h)
end
theorem c_X0_init (G : zG) {A : zA} {m : zM} {q N : Nat} (hs : A.1 q = some (.inl 0)) (hn : A.2.2 = q + 1) (hN : 1 ≤ N ∧ N < 100000) : zMet G (k_X0_init N) [vr q, vi (N : Int)] A m (zpc (fun A' m' => zbigA A' q N ∧ A'.2.2 = q + 2 ∧ zFr q A m A' m')) := by
  refine zMet.of RX0 rfl (by decide +kernel) (Nat.le_of_ble_eq_true rfl) [some (vr q), some (vi (N : Int))] rfl (fun E hG X hQ hNm => ?_)
  subst hG
  refine z_aload_n X dX0_init_0 rfl ?_
  refine z_objInit X dX0_init_1 l_X0_3 w_objLinkless w_objCode (Nat.le_of_ble_eq_true rfl) (Nat.le_of_ble_eq_true rfl) ?_
  refine z_aload_n X dX0_init_4 rfl ?_
  refine z_iload_n X dX0_init_5 rfl ?_
  refine z_iconst X dX0_init_6 ?_
  refine z_icmp_ge X dX0_init_7 14 (by decide) (by omega) (by omega) (fun h7 => ?_) (fun h7 => ?_)
  · refine z_iload_n X dX0_init_14 rfl ?_
    refine z_newarrF X (t := 0) dX0_init_15 dX0_init_17 (by decide) rfl ac_int rfl (by omega) (Nat.le_of_ble_eq_true rfl) (by show 0 + N ≤ N; omega) f_X0_9 hNm fw_X0_9 rfl rfl rfl (fun _ => ⟨rfl, rfl⟩) rfl hs (by omega) (fun A' m' h1 h2 h3 h4 h5 => ?_)
    have e0 : 0 + N = N := Nat.zero_add N
    have hQ' : zRet E (zpc (fun A' m' => zbigA A' q N ∧ A'.2.2 = q + 2 ∧ zFr q A m A' m')) 1 (0 + N) := by rw [e0]; exact hQ
    refine z_return (st := []) X rfl hQ' dX0_init_20 ⟨rfl, ⟨(h5.1 _ (by omega)).trans hs, by rw [← hn]; exact h2, by rw [← hn]; exact h1, hN⟩, by omega, h5.fr (by omega) (by omega)⟩
  · exact absurd h7 (by omega)
theorem c_X1_init (G : zG) {A : zA} {m : zM} {q : Nat} (hs : A.1 q = some (.inl 1)) (hn : A.2.2 = q + 1) (h0 : ∀ j, m q j = 0) : zMet G k_X1_init [vr q] A m (zpc (fun A' m' => (zcoA A' q ∧ m' q 3 = 0) ∧ A'.2.2 = q + 4 ∧ zFr q A m A' m')) := by
  refine zMet.of RX1 rfl (by decide +kernel) (Nat.le_of_ble_eq_true rfl) [some (vr q)] rfl (fun E hG X hQ hNm => ?_)
  subst hG
  refine z_aload_n X dX1_init_0 rfl ?_
  refine z_objInit X dX1_init_1 l_X1_3 w_objLinkless w_objCode (by decide) (Nat.le_of_ble_eq_true rfl) ?_
  refine z_aload_n X dX1_init_4 rfl ?_
  refine z_iconst X dX1_init_5 ?_
  refine z_newarrF X (t := 0) (n := 4) dX1_init_6 dX1_init_8 (by decide) rfl ac_int rfl (by omega) (Nat.le_of_ble_eq_true rfl) (Nat.le_of_ble_eq_true rfl) f_X1_9 hNm fw_X1_9 rfl rfl rfl (fun _ => ⟨rfl, rfl⟩) rfl hs (by omega) (fun A1 m1 a1 a2 a3 a4 a5 => ?_)
  have hs1 := (a5.1 q (by omega)).trans hs
  refine z_aload_n X dX1_init_11 rfl ?_
  refine z_iconst X dX1_init_12 ?_
  refine z_newarrF X (t := 0) (n := 4) dX1_init_13 dX1_init_15 (by decide) rfl ac_int rfl (by omega) (Nat.le_of_ble_eq_true rfl) (Nat.le_of_ble_eq_true rfl) f_X1_15 hNm fw_X1_15 rfl rfl rfl (fun _ => ⟨rfl, rfl⟩) rfl hs1 (by omega) (fun A2 m2 b1 b2 b3 b4 b5 => ?_)
  have hs2 := (b5.1 q (by omega)).trans hs1
  refine z_aload_n X dX1_init_18 rfl ?_
  refine z_iconst X dX1_init_19 ?_
  refine z_newarrF X (t := 0) (n := 4) dX1_init_20 dX1_init_22 (by decide) rfl ac_int rfl (by omega) (Nat.le_of_ble_eq_true rfl) (Nat.le_of_ble_eq_true rfl) f_X1_18 hNm fw_X1_18 rfl rfl rfl (fun _ => ⟨rfl, rfl⟩) rfl hs2 (by omega) (fun A3 m3 c1 c2 c3 c4 c5 => ?_)
  have e1 : A1.2.2 = q + 2 := by omega
  have e2 : A2.2.2 = q + 3 := by omega
  rw [hn] at a1 a2
  rw [e1] at b1 b2
  rw [e2] at c1 c2
  refine z_return (st := []) X rfl hQ dX1_init_25 ⟨rfl, ⟨⟨(c5.1 _ (by omega)).trans hs2, ⟨(c5.2.1 _ _ (by omega) (by omega)).trans ((b5.2.1 _ _ (by omega) (by omega)).trans a2), (c5.2.1 _ _ (by omega) (by omega)).trans b2, c2⟩, (c5.1 _ (by omega)).trans ((b5.1 _ (by omega)).trans a1), (c5.1 _ (by omega)).trans b1, c1⟩, (c5.2.2 _ _ (by omega)).trans ((b5.2.2 _ _ (by omega)).trans ((a5.2.2 _ _ (by omega)).trans (h0 3)))⟩, by omega, ((a5.fr (by omega) (by omega)).t (b5.fr (n := q) (by omega) (by omega)) (by omega)).t (c5.fr (n := q) (by omega) (by omega)) (by omega)⟩
theorem c_X6_init (G : zG) {A : zA} {m : zM} {q : Nat} (hs : A.1 q = some (.inl 6)) (hn : A.2.2 = q + 1) : zMet G k_X6_init [vr q] A m (zpc (fun A' m' => (zsumA A' q ∧ zsumM m' q (fun _ _ => 0) 1 2) ∧ A'.2.2 = q + 4 ∧ zFr q A m A' m')) := by
  refine zMet.of RX6 rfl (by decide +kernel) (Nat.le_of_ble_eq_true rfl) [some (vr q)] rfl (fun E hG X hQ hNm => ?_)
  subst hG
  refine z_aload_n X dX6_init_0 rfl ?_
  refine z_objInit X dX6_init_1 l_X6_3 w_objLinkless w_objCode (by decide) (Nat.le_of_ble_eq_true rfl) ?_
  refine z_aload_n X dX6_init_4 rfl ?_
  refine z_iconst X dX6_init_5 ?_
  refine z_newarrF X (t := 0) (n := 4) dX6_init_6 dX6_init_8 (by decide) rfl ac_int rfl (by omega) (Nat.le_of_ble_eq_true rfl) (Nat.le_of_ble_eq_true rfl) f_X6_9 hNm fw_X6_9 rfl rfl rfl (fun _ => ⟨rfl, rfl⟩) rfl hs (by omega) (fun A1 m1 a1 a2 a3 a4 a5 => ?_)
  have hs1 := (a5.1 q (by omega)).trans hs
  refine z_aload_n X dX6_init_11 rfl ?_
  refine z_iconst X dX6_init_12 ?_
  refine z_newarrF X (t := 0) (n := 4) dX6_init_13 dX6_init_15 (by decide) rfl ac_int rfl (by omega) (Nat.le_of_ble_eq_true rfl) (Nat.le_of_ble_eq_true rfl) f_X6_15 hNm fw_X6_15 rfl rfl rfl (fun _ => ⟨rfl, rfl⟩) rfl hs1 (by omega) (fun A2 m2 b1 b2 b3 b4 b5 => ?_)
  have hs2 := (b5.1 q (by omega)).trans hs1
  refine z_aload_n X dX6_init_18 rfl ?_
  refine z_iconst X dX6_init_19 ?_
  refine z_newarrF X (t := 0) (n := 4) dX6_init_20 dX6_init_22 (by decide) rfl ac_int rfl (by omega) (Nat.le_of_ble_eq_true rfl) (Nat.le_of_ble_eq_true rfl) f_X6_18 hNm fw_X6_18 rfl rfl rfl (fun _ => ⟨rfl, rfl⟩) rfl hs2 (by omega) (fun A3 m3 c1 c2 c3 c4 c5 => ?_)
  have hs3 := (c5.1 q (by omega)).trans hs2
  refine z_aload_n X dX6_init_25 rfl ?_
  refine z_iconst X dX6_init_26 ?_
  refine z_putI X dX6_init_27 f_X6_21 rfl rfl (by first | assumption | exact zbigA.o (by assumption)) ?_
  refine z_aload_n X dX6_init_30 rfl ?_
  refine z_iconst X dX6_init_31 ?_
  refine z_putI X dX6_init_32 f_X6_25 rfl rfl (by first | assumption | exact zbigA.o (by assumption)) ?_
  have e1 : A1.2.2 = q + 2 := by omega
  have e2 : A2.2.2 = q + 3 := by omega
  rw [hn] at a1 a2 a4
  rw [e1] at b1 b2 b4
  rw [e2] at c1 c2 c4
  have z1 : ∀ j, m3 (q + 1) j = 0 := fun j => (c5.2.2 _ _ (by omega)).trans ((b5.2.2 _ _ (by omega)).trans (a4 j))
  have z2 : ∀ j, m3 (q + 2) j = 0 := fun j => (c5.2.2 _ _ (by omega)).trans (b4 j)
  refine z_return (st := []) X rfl hQ dX6_init_35 ⟨rfl, ⟨⟨hs3, ⟨(c5.2.1 _ _ (by omega) (by omega)).trans ((b5.2.1 _ _ (by omega) (by omega)).trans a2), (c5.2.1 _ _ (by omega) (by omega)).trans b2, c2⟩, (c5.1 _ (by omega)).trans ((b5.1 _ (by omega)).trans a1), (c5.1 _ (by omega)).trans b1, c1⟩, ⟨fun w _ => ⟨?_, ?_, ?_⟩, ?_, ?_⟩⟩, by omega, ?_⟩
  · rw [zms_nq _ _ _ _ _ (by omega), zms_nq _ _ _ _ _ (by omega)]; exact z1 w
  · rw [zms_nq _ _ _ _ _ (by omega), zms_nq _ _ _ _ _ (by omega)]; exact z2 w
  · rw [zms_nq _ _ _ _ _ (by omega), zms_nq _ _ _ _ _ (by omega)]; exact c4 w
  · rw [zms_nk _ _ _ _ _ (by omega), zms_same]
  · rw [zms_same]
  · have h := ((a5.fr (n := q) (by omega) (by omega)).t (b5.fr (n := q) (by omega) (by omega)) (by omega)).t (c5.fr (n := q) (by omega) (by omega)) (by omega)
    exact ⟨h.1, h.2.1, fun a j ha => by rw [zms_nq _ _ _ _ _ (by omega), zms_nq _ _ _ _ _ (by omega)]; exact h.2.2 a j ha⟩
theorem c_X3_init (G : zG) {A : zA} {m : zM} {q : Nat} (hs : A.1 q = some (.inl 3)) (hn : A.2.2 = q + 1) (h0 : ∀ j, m q j = 0) : zMet G k_X3_init [vr q] A m (zpc (fun A' m' => (zfigA A' q ∧ m' q 6 = -6 ∧ m' q 5 = 0 ∧ m' q 7 = 0) ∧ A'.2.2 = q + 2 ∧ zFr q A m A' m')) := by
  refine zMet.of RX3 rfl (by decide +kernel) (Nat.le_of_ble_eq_true rfl) [some (vr q)] rfl (fun E hG X hQ hNm => ?_)
  subst hG
  refine z_aload_n X dX3_init_0 rfl ?_
  refine z_objInit X dX3_init_1 l_X3_3 w_objLinkless w_objCode (by decide) (Nat.le_of_ble_eq_true rfl) ?_
  refine z_aload_n X dX3_init_4 rfl ?_
  refine z_bipush X dX3_init_5 (by decide) ?_
  refine z_newarrF X (t := 0) (n := 100) dX3_init_7 dX3_init_9 (by decide) rfl ac_int rfl (by omega) (Nat.le_of_ble_eq_true rfl) (Nat.le_of_ble_eq_true rfl) f_X3_9 hNm fw_X3_9 rfl rfl rfl (fun _ => ⟨rfl, rfl⟩) rfl hs (by omega) (fun A1 m1 a1 a2 a3 a4 a5 => ?_)
  have hs1 := (a5.1 q (by omega)).trans hs
  refine z_aload_n X dX3_init_12 rfl ?_
  refine z_iconst X dX3_init_13 ?_
  refine z_putI X dX3_init_14 f_X3_15 rfl rfl (by first | assumption | exact zbigA.o (by assumption)) ?_
  refine z_aload_n X dX3_init_17 rfl ?_
  refine z_bipush X dX3_init_18 (by decide) ?_
  refine z_putI X dX3_init_20 f_X3_19 rfl rfl (by first | assumption | exact zbigA.o (by assumption)) ?_
  rw [hn] at a1 a2
  refine z_return (st := []) X rfl hQ dX3_init_23 ⟨rfl, ⟨⟨hs1, a2, a1⟩, ?_, ?_, ?_⟩, by omega, ?_⟩
  · rw [zms_same]
  · rw [zms_nk _ _ _ _ _ (by omega), zms_nk _ _ _ _ _ (by omega)]; exact (a5.2.2 _ _ (by omega)).trans (h0 5)
  · rw [zms_nk _ _ _ _ _ (by omega), zms_nk _ _ _ _ _ (by omega)]; exact (a5.2.2 _ _ (by omega)).trans (h0 7)
  · have h := a5.fr (n := q) (by omega) (by omega)
    exact ⟨h.1, h.2.1, fun a j ha => by rw [zms_nq _ _ _ _ _ (by omega), zms_nq _ _ _ _ _ (by omega)]; exact h.2.2 a j ha⟩

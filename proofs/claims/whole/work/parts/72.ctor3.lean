/-! Constructor of ConstantMill -/
theorem zbigA.rs {A : zA} {q N g k : Nat} {v : Option Nat} (h : zbigA A q N) (hg : g ≠ q) : zbigA (A.1, zrs A.2.1 g k v, A.2.2) q N := h.g rfl rfl (by show zrs A.2.1 g k v q 0 = _; unfold zrs; rw [if_neg (by omega)])
theorem zrs_ne {mr : Nat → Nat → Option Nat} {g k a j : Nat} {v : Option Nat} (h : a ≠ g) : zrs mr g k v a j = mr a j := by unfold zrs; rw [if_neg (by omega)]
theorem zgrA.rs {A : zA} {a g k : Nat} {v : Option Nat} (h : zgrA A a) (hg : g < a) : zgrA (A.1, zrs A.2.1 g k v, A.2.2) a := by
  obtain ⟨h1, ⟨h2, h3, h4, h5⟩, b1, b2, b3, b4⟩ := h
  exact ⟨h1, ⟨(zrs_ne (by omega)).trans h2, (zrs_ne (by omega)).trans h3, (zrs_ne (by omega)).trans h4, (zrs_ne (by omega)).trans h5⟩, b1.rs (by omega), b2.rs (by omega), b3.rs (by omega), b4.rs (by omega)⟩
theorem zencA.rs {A : zA} {a g k : Nat} {v : Option Nat} (h : zencA A a) (hg : g < a) : zencA (A.1, zrs A.2.1 g k v, A.2.2) a := by
  obtain ⟨h1, ⟨h2, h3, h4, h5⟩, b1, b2, b3, b4⟩ := h
  exact ⟨h1, ⟨(zrs_ne (by omega)).trans h2, (zrs_ne (by omega)).trans h3, (zrs_ne (by omega)).trans h4, (zrs_ne (by omega)).trans h5⟩, b1.rs (by omega), b2.rs (by omega), b3.rs (by omega), b4.rs (by omega)⟩
theorem zspanA.rs {A : zA} {a g k : Nat} {v : Option Nat} (h : zspanA A a) (hg : g < a) : zspanA (A.1, zrs A.2.1 g k v, A.2.2) a := by
  obtain ⟨h1, ⟨h2, h3, h4, h5⟩, b1, b2, b3, b4⟩ := h
  exact ⟨h1, ⟨(zrs_ne (by omega)).trans h2, (zrs_ne (by omega)).trans h3, (zrs_ne (by omega)).trans h4, (zrs_ne (by omega)).trans h5⟩, b1.rs (by omega), b2.rs (by omega), b3.rs (by omega), b4.rs (by omega)⟩
theorem zfigA.rs {A : zA} {a g k : Nat} {v : Option Nat} (h : zfigA A a) (hg : g < a) : zfigA (A.1, zrs A.2.1 g k v, A.2.2) a := ⟨h.1, (zrs_ne (by omega)).trans h.2.1, h.2.2⟩
theorem zsumA.rs {A : zA} {a g k : Nat} {v : Option Nat} (h : zsumA A a) (hg : g < a) : zsumA (A.1, zrs A.2.1 g k v, A.2.2) a := by
  obtain ⟨h1, ⟨h2, h3, h4⟩, h5⟩ := h
  exact ⟨h1, ⟨(zrs_ne (by omega)).trans h2, (zrs_ne (by omega)).trans h3, (zrs_ne (by omega)).trans h4⟩, h5⟩
theorem zcoA.rs {A : zA} {a g k : Nat} {v : Option Nat} (h : zcoA A a) (hg : g < a) : zcoA (A.1, zrs A.2.1 g k v, A.2.2) a := by
  obtain ⟨h1, ⟨h2, h3, h4⟩, h5⟩ := h
  exact ⟨h1, ⟨(zrs_ne (by omega)).trans h2, (zrs_ne (by omega)).trans h3, (zrs_ne (by omega)).trans h4⟩, h5⟩
section
variable {A A' : zA} {m m' : zM} {a g k : Nat}
theorem zgrA.x (h : zgrA A a) (hG : zGr g k A m A' m') (ha : a + 9 ≤ A.2.2 ∧ g < a) : zgrA A' a := by
  obtain ⟨h1, ⟨h2, h3, h4, h5⟩, b1, b2, b3, b4⟩ := h
  exact ⟨(hG.1 _ (by omega)).trans h1, ⟨(hG.2.1 _ _ (by omega) (by omega)).trans h2, (hG.2.1 _ _ (by omega) (by omega)).trans h3, (hG.2.1 _ _ (by omega) (by omega)).trans h4, (hG.2.1 _ _ (by omega) (by omega)).trans h5⟩, b1.x hG (by omega), b2.x hG (by omega), b3.x hG (by omega), b4.x hG (by omega)⟩
theorem zencA.x (h : zencA A a) (hG : zGr g k A m A' m') (ha : a + 9 ≤ A.2.2 ∧ g < a) : zencA A' a := by
  obtain ⟨h1, ⟨h2, h3, h4, h5⟩, b1, b2, b3, b4⟩ := h
  exact ⟨(hG.1 _ (by omega)).trans h1, ⟨(hG.2.1 _ _ (by omega) (by omega)).trans h2, (hG.2.1 _ _ (by omega) (by omega)).trans h3, (hG.2.1 _ _ (by omega) (by omega)).trans h4, (hG.2.1 _ _ (by omega) (by omega)).trans h5⟩, b1.x hG (by omega), b2.x hG (by omega), b3.x hG (by omega), b4.x hG (by omega)⟩
theorem zspanA.x (h : zspanA A a) (hG : zGr g k A m A' m') (ha : a + 9 ≤ A.2.2 ∧ g < a) : zspanA A' a := by
  obtain ⟨h1, ⟨h2, h3, h4, h5⟩, b1, b2, b3, b4⟩ := h
  exact ⟨(hG.1 _ (by omega)).trans h1, ⟨(hG.2.1 _ _ (by omega) (by omega)).trans h2, (hG.2.1 _ _ (by omega) (by omega)).trans h3, (hG.2.1 _ _ (by omega) (by omega)).trans h4, (hG.2.1 _ _ (by omega) (by omega)).trans h5⟩, b1.x hG (by omega), b2.x hG (by omega), b3.x hG (by omega), b4.x hG (by omega)⟩
theorem zfigA.x (h : zfigA A a) (hG : zGr g k A m A' m') (ha : a + 2 ≤ A.2.2 ∧ g < a) : zfigA A' a := ⟨(hG.1 _ (by omega)).trans h.1, (hG.2.1 _ _ (by omega) (by omega)).trans h.2.1, (hG.1 _ (by omega)).trans h.2.2⟩
theorem zsumA.x (h : zsumA A a) (hG : zGr g k A m A' m') (ha : a + 4 ≤ A.2.2 ∧ g < a) : zsumA A' a := by
  obtain ⟨h1, ⟨h2, h3, h4⟩, h5, h6, h7⟩ := h
  exact ⟨(hG.1 _ (by omega)).trans h1, ⟨(hG.2.1 _ _ (by omega) (by omega)).trans h2, (hG.2.1 _ _ (by omega) (by omega)).trans h3, (hG.2.1 _ _ (by omega) (by omega)).trans h4⟩, (hG.1 _ (by omega)).trans h5, (hG.1 _ (by omega)).trans h6, (hG.1 _ (by omega)).trans h7⟩
theorem zcoA.x (h : zcoA A a) (hG : zGr g k A m A' m') (ha : a + 4 ≤ A.2.2 ∧ g < a) : zcoA A' a := by
  obtain ⟨h1, ⟨h2, h3, h4⟩, h5, h6, h7⟩ := h
  exact ⟨(hG.1 _ (by omega)).trans h1, ⟨(hG.2.1 _ _ (by omega) (by omega)).trans h2, (hG.2.1 _ _ (by omega) (by omega)).trans h3, (hG.2.1 _ _ (by omega) (by omega)).trans h4⟩, (hG.1 _ (by omega)).trans h5, (hG.1 _ (by omega)).trans h6, (hG.1 _ (by omega)).trans h7⟩
end
section
variable {E : zCx} {cc : ByteArray} {own : String} {nL : Nat} {ret : Option FieldType} {rm : Room} {cs : Nat × Nat} {A : zA} {m : zM} {pc : Nat} {lv : zLv} {st : List Value}
/-- anewarray, putfield -/
theorem z_anewarrF (X : zOK E cc own nL ret rm) {idx0 t n ce idx ci k q : Nat} {i : Int} (hd : decode cc pc = .ok (.anewarray idx0, 3)) (hd2 : decode cc (pc + 3) = .ok (.putfield idx, 3)) (ht : 2 ≤ t ∧ t < 5) (hce : zaT t = .object (zC ce)) (w1 : Cond.classLink own idx0 (zC ce) ∈ zGB) (w2 : Cond.arrayOver (.object (zC ce)) ∈ zNB) (hi : i = (n : Int)) (hn0 : n < 100000000) (hcells : cs.1 + 1 ≤ rm.cells) (hslots : cs.2 + n ≤ rm.slots)
    (hf : zFl own idx ci k) (hn : zNm E "<init>") (hlink : Cond.fieldLink own idx (zT ci k).1 (zT ci k).2.1 (zT ci k).2.2.1 ∈ zGB) (hcl : zC ci = own) (hdecl : (zT ci k).1 = own) (hk : zkd ci k = 2) (htyF : ∀ a, narrow (zty ci k) (vr a) = vr a ∧ fits (zty ci k) (vr a) = true) (hfin : zfin ci k = true) (hs : A.1 q = some (.inl ci)) (hq : q < A.2.2)
    (kk : ∀ A' m', A'.1 A.2.2 = some (.inr (t, n)) → A'.2.1 q k = some A.2.2 → A'.2.2 = A.2.2 + 1 → zGr q k A m A' m' → zW E (cs.1 + 1, cs.2 + n) A' m' (pc + 3 + 3) lv st) : zW E cs A m pc lv (vi i :: vr q :: st) := by
  refine z_anewarr X hd ht hce w1 w2 hi hn0 hcells hslots ?_
  have hs' : (znew A (.inr (t, n))).1 q = some (.inl ci) := by simp [znew, zsh, show q ≠ A.2.2 by omega, hs]
  refine z_putR X hd2 hf hn hlink hcl hdecl hk (htyF _) hfin hs' (kk _ _ ?_ ?_ ?_ ⟨fun a ha => ?_, fun a j ha hj => ?_, fun a j ha => ?_⟩)
  · simp [znew, zsh]
  · simp [znew, zrs]
  · simp [znew]
  · simp [znew, zsh, show a ≠ A.2.2 by omega]
  · show zrs (zrz A.2.1 A.2.2) q k (some A.2.2) a j = _
    unfold zrs zrz
    rw [if_neg hj, if_neg (by omega)]
  · simp [zmz, show a ≠ A.2.2 by omega]
/-- new, <init>, putfield -/
theorem z_newF (X : zOK E cc own nL ret rm) {idx idx2 idx3 k g ci cj a w maxL : Nat} {y : MethodName} {bytes : ByteArray} {rmk : Room} {Pc : zA → zM → Prop} (ha : A.2.2 = a) (hd1 : decode cc pc = .ok (.new idx, 3)) (hd2 : decode cc (pc + 3) = .ok (.dup, 1)) (hd3 : decode cc (pc + 3 + 1) = .ok (.invokespecial idx2, 3)) (hd4 : decode cc (pc + 3 + 1 + 3) = .ok (.putfield idx3, 3)) (hcj : cj < 9) (w1 : Cond.classLink own idx (zC cj) ∈ zGB) (w2 : Cond.instantiable (zC cj) (zN cj) ∈ zGB) (w3 : Cond.initialized (zC cj) ∈ zGB) (hy : y.name = "<init>") (hw : zMw (y, bytes, maxL, none, rmk) 0) (hi : Cond.instanceMethod y ∈ zGB) (hl : zLk own idx2 (y, bytes, maxL, none, rmk)) (hroom : rmk.frames + 1 ≤ rm.frames ∧ 8 + (maxL + 11) + rmk.locals ≤ rm.locals) (hcells : cs.1 + 1 + rmk.cells ≤ rm.cells) (hslots : cs.2 + zN cj + rmk.slots ≤ rm.slots)
    (hM : ∀ A1 m1, A1.1 a = some (.inl cj) → A1.2.2 = a + 1 → (∀ j, m1 a j = 0) → zMet (zg E) (y, bytes, maxL, none, rmk) [vr a] A1 m1 (zpc (fun A' m' => Pc A' m' ∧ A'.2.2 = a + w ∧ zFr a A1 m1 A' m')))
    (hst : ∀ A' m', Pc A' m' → Pc (A'.1, zrs A'.2.1 g k (some a), A'.2.2) m')
    (hf : zFl own idx3 ci k) (hn : zNm E "<init>") (hlink : Cond.fieldLink own idx3 (zT ci k).1 (zT ci k).2.1 (zT ci k).2.2.1 ∈ zGB) (hcl : zC ci = own) (hdecl : (zT ci k).1 = own) (hk : zkd ci k = 2) (htyF : ∀ a, narrow (zty ci k) (vr a) = vr a ∧ fits (zty ci k) (vr a) = true) (hfin : zfin ci k = true) (hs : A.1 g = some (.inl ci)) (hg : g < A.2.2)
    (kk : ∀ A' m', Pc A' m' → A'.2.1 g k = some a → A'.2.2 = a + w → zGr g k A m A' m' → zW E (cs.1 + 1 + rmk.cells, cs.2 + zN cj + rmk.slots) A' m' (pc + 3 + 1 + 3 + 3) lv []) : zW E cs A m pc lv [vr g] := by
  subst ha
  refine z_new X hd1 hcj w1 w2 w3 (by omega) (by omega) ?_
  refine z_dup X hd2 rfl ?_
  refine z_callIc X (As := []) (rest := [vr A.2.2, vr g]) hd3 hy hw hi hl (hM _ _ (by simp [znew, zsh]) (by simp [znew]) (fun j => by simp [zmz])) rfl rfl (Nat.le_of_ble_eq_true rfl) hroom ⟨hcells, hslots⟩ (fun A1 m1 h => ?_)
  obtain ⟨h1, h2, h3⟩ := h
  have hs1 : A1.1 g = some (.inl ci) := (h3.1 g hg).trans (by simp [znew, zsh, show g ≠ A.2.2 by omega, hs])
  refine z_putR X hd4 hf hn hlink hcl hdecl hk (htyF _) hfin hs1 (kk _ _ (hst _ _ h1) ?_ h2 ⟨fun a ha => ?_, fun a j ha hj => ?_, fun a j ha => ?_⟩)
  · simp [zrs]
  · exact (h3.1 a ha).trans (by simp [znew, zsh, show a ≠ A.2.2 by omega])
  · show zrs A1.2.1 g k (some A.2.2) a j = _
    unfold zrs
    rw [if_neg hj, h3.2.1 a j ha]
    simp [znew, zrz, show a ≠ A.2.2 by omega]
  · exact (h3.2.2 a j ha).trans (by simp [zmz, show a ≠ A.2.2 by omega])
/-- new, <init>, into a row -/
theorem z_newE (X : zOK E cc own nL ret rm) {idx idx2 g cj a w maxL t n : Nat} (k : Nat) {i : Int} {y : MethodName} {bytes : ByteArray} {rmk : Room} {Pc : zA → zM → Prop} (ha : A.2.2 = a) (hd1 : decode cc pc = .ok (.new idx, 3)) (hd2 : decode cc (pc + 3) = .ok (.dup, 1)) (hd3 : decode cc (pc + 3 + 1) = .ok (.invokespecial idx2, 3)) (hd4 : decode cc (pc + 3 + 1 + 3) = .ok (.aastore, 1)) (hcj : cj < 9) (w1 : Cond.classLink own idx (zC cj) ∈ zGB) (w2 : Cond.instantiable (zC cj) (zN cj) ∈ zGB) (w3 : Cond.initialized (zC cj) ∈ zGB) (hy : y.name = "<init>") (hw : zMw (y, bytes, maxL, none, rmk) 0) (hi : Cond.instanceMethod y ∈ zGB) (hl : zLk own idx2 (y, bytes, maxL, none, rmk)) (hroom : rmk.frames + 1 ≤ rm.frames ∧ 8 + (maxL + 11) + rmk.locals ≤ rm.locals) (hcells : cs.1 + 1 + rmk.cells ≤ rm.cells) (hslots : cs.2 + zN cj + rmk.slots ≤ rm.slots)
    (hM : ∀ A1 m1, A1.1 a = some (.inl cj) → A1.2.2 = a + 1 → (∀ j, m1 a j = 0) → zMet (zg E) (y, bytes, maxL, none, rmk) [vr a] A1 m1 (zpc (fun A' m' => Pc A' m' ∧ A'.2.2 = a + w ∧ zFr a A1 m1 A' m')))
    (hst : ∀ A' m', Pc A' m' → Pc (A'.1, zrs A'.2.1 g k (some a), A'.2.2) m') (hpc : ∀ A' m', Pc A' m' → A'.1 a = some (.inl cj))
    (hik : i = (k : Int)) (ht : 2 ≤ t ∧ t < 5) (htc : zaT t = .object (zC cj)) (hs : A.1 g = some (.inr (t, n))) (hkn : k < n) (hk31 : k < 2147483648) (hg : g < A.2.2)
    (kk : ∀ A' m', Pc A' m' → A'.2.1 g k = some a → A'.2.2 = a + w → zGr g k A m A' m' → zW E (cs.1 + 1 + rmk.cells, cs.2 + zN cj + rmk.slots) A' m' (pc + 3 + 1 + 3 + 1) lv []) : zW E cs A m pc lv [vi i, vr g] := by
  subst ha
  refine z_new X hd1 hcj w1 w2 w3 (by omega) (by omega) ?_
  refine z_dup X hd2 rfl ?_
  refine z_callIc X (As := []) (rest := [vr A.2.2, vi i, vr g]) hd3 hy hw hi hl (hM _ _ (by simp [znew, zsh]) (by simp [znew]) (fun j => by simp [zmz])) rfl rfl (Nat.le_of_ble_eq_true rfl) hroom ⟨hcells, hslots⟩ (fun A1 m1 h => ?_)
  obtain ⟨h1, h2, h3⟩ := h
  have hs1 : A1.1 g = some (.inr (t, n)) := (h3.1 g hg).trans (by simp [znew, zsh, show g ≠ A.2.2 by omega, hs])
  refine z_aast X k hd4 hik ht htc hs1 hkn hk31 (hpc _ _ h1) (kk _ _ (hst _ _ h1) ?_ h2 ⟨fun a ha => ?_, fun a j ha hj => ?_, fun a j ha => ?_⟩)
  · simp [zrs]
  · exact (h3.1 a ha).trans (by simp [znew, zsh, show a ≠ A.2.2 by omega])
  · show zrs A1.2.1 g k (some A.2.2) a j = _
    unfold zrs
    rw [if_neg hj, h3.2.1 a j ha]
    simp [znew, zrz, show a ≠ A.2.2 by omega]
  · exact (h3.2.2 a j ha).trans (by simp [zmz, show a ≠ A.2.2 by omega])
end
/-- the mill as far as it is made: i sums, j drawers, l constants -/
def zI7 (b i j l : Nat) (A : zA) (m : zM) : Prop := (A.1 b = some (.inl 7) ∧ A.2.1 b 0 = some (b + 1) ∧ A.2.1 b 1 = some (b + 2) ∧ A.2.1 b 2 = some (b + 3) ∧ A.2.1 b 3 = some (b + 4) ∧ A.2.1 b 4 = some (b + 13) ∧ A.2.1 b 5 = some (b + 22) ∧ A.2.1 b 6 = some (b + 31) ∧ A.2.1 b 7 = some (b + 33) ∧ A.2.1 b 8 = some (b + 35)) ∧ (A.1 (b + 1) = some (.inr (2, 6)) ∧ A.1 (b + 2) = some (.inr (3, 8)) ∧ A.1 (b + 3) = some (.inr (4, 4))) ∧ (zgrA A (b + 4) ∧ zencA A (b + 13) ∧ zspanA A (b + 22) ∧ zfigA A (b + 31) ∧ zfigA A (b + 33) ∧ zfigA A (b + 35)) ∧ (∀ x, x < i → A.2.1 (b + 1) x = some (b + 37 + 4 * x) ∧ zsumA A (b + 37 + 4 * x) ∧ zsumM m (b + 37 + 4 * x) (fun _ _ => 0) 1 2) ∧ (∀ x, x < j → A.2.1 (b + 2) x = some (b + 61 + 9 * x) ∧ zspanA A (b + 61 + 9 * x) ∧ m (b + 61 + 9 * x) 4 = 0 ∧ m (b + 61 + 9 * x) 5 = 0) ∧ (∀ x, x < l → A.2.1 (b + 3) x = some (b + 133 + 4 * x) ∧ zcoA A (b + 133 + 4 * x) ∧ m (b + 133 + 4 * x) 3 = 0) ∧ (m b 9 = 0 ∧ m (b + 31) 6 = -6 ∧ m (b + 31) 5 = 0 ∧ m (b + 31) 7 = 0)
theorem zI7.x {b i j l g k : Nat} {A A' : zA} {m m' : zM} (h : zI7 b i j l A m) (hG : zGr g k A m A' m') (hg : (g = b + 1 ∧ i ≤ k) ∨ (g = b + 2 ∧ j ≤ k) ∨ (g = b + 3 ∧ l ≤ k)) (hn : b + 37 + 4 * i ≤ A.2.2 ∧ (0 < j → b + 61 + 9 * j ≤ A.2.2) ∧ (0 < l → b + 133 + 4 * l ≤ A.2.2)) : zI7 b i j l A' m' := by
  obtain ⟨⟨h0, h1, h2, h3, h4, h5, h6, h7, h8, h9⟩, ⟨a1, a2, a3⟩, ⟨gG, gE, gP, gF, gT, gU⟩, hS, hD, hC, c1, c2, c3, c4⟩ := h
  refine ⟨⟨(hG.1 _ (by omega)).trans h0, (hG.2.1 _ _ (by omega) (by omega)).trans h1, (hG.2.1 _ _ (by omega) (by omega)).trans h2, (hG.2.1 _ _ (by omega) (by omega)).trans h3, (hG.2.1 _ _ (by omega) (by omega)).trans h4, (hG.2.1 _ _ (by omega) (by omega)).trans h5, (hG.2.1 _ _ (by omega) (by omega)).trans h6, (hG.2.1 _ _ (by omega) (by omega)).trans h7, (hG.2.1 _ _ (by omega) (by omega)).trans h8, (hG.2.1 _ _ (by omega) (by omega)).trans h9⟩, ⟨(hG.1 _ (by omega)).trans a1, (hG.1 _ (by omega)).trans a2, (hG.1 _ (by omega)).trans a3⟩, ⟨gG.x hG (by omega), gE.x hG (by omega), gP.x hG (by omega), gF.x hG (by omega), gT.x hG (by omega), gU.x hG (by omega)⟩, fun x hx => ?_, fun x hx => ?_, fun x hx => ?_, (hG.2.2 _ _ (by omega)).trans c1, (hG.2.2 _ _ (by omega)).trans c2, (hG.2.2 _ _ (by omega)).trans c3, (hG.2.2 _ _ (by omega)).trans c4⟩
  · obtain ⟨w1, w2, w3⟩ := hS x hx
    exact ⟨(hG.2.1 _ _ (by omega) (by omega)).trans w1, w2.x hG (by omega), w3.e (fun a j _ _ => hG.2.2 _ _ (by omega))⟩
  · obtain ⟨w1, w2, w3, w4⟩ := hD x hx
    exact ⟨(hG.2.1 _ _ (by omega) (by omega)).trans w1, w2.x hG (by omega), (hG.2.2 _ _ (by omega)).trans w3, (hG.2.2 _ _ (by omega)).trans w4⟩
  · obtain ⟨w1, w2, w3⟩ := hC x hx
    exact ⟨(hG.2.1 _ _ (by omega) (by omega)).trans w1, w2.x hG (by omega), (hG.2.2 _ _ (by omega)).trans w3⟩
theorem zl_7Sum {E : zCx} (X : zOK E cX7_init RX7 2 none k_X7_init.2.2.2.2) {A0 : zA} {m0 : zM} {b : Nat} (K : ∀ (A : zA) (m : zM) (cs : Nat × Nat), zI7 b 6 0 0 A m → A.2.2 = b + 37 + 4 * 6 → zFr b A0 m0 A m → cs.1 = 36 + 4 * 6 → cs.2 = 4139 + 17 * 6 → ∀ l1, zW E cs A m 123 [some (vr b), l1] []) : ∀ (r i : Nat) (A : zA) (m : zM) (cs : Nat × Nat), i + r = 6 → zI7 b i 0 0 A m → A.2.2 = b + 37 + 4 * i → zFr b A0 m0 A m → cs.1 = 36 + 4 * i → cs.2 = 4139 + 17 * i → zW E cs A m 98 [some (vr b), some (vi (i : Int))] [] := by
  intro r
  induction r with
  | zero =>
    intro i A m cs hi hI hA2 hF hc1 hc2
    obtain rfl : i = 6 := by omega
    refine z_iload_n X dX7_init_98 rfl ?_
    refine z_bipush X dX7_init_99 (by decide) ?_
    refine z_icmp_ge X dX7_init_101 123 (by decide) (by omega) (by omega) (fun h101 => ?_) (fun h101 => ?_)
    · exact K A m cs hI hA2 hF hc1 hc2 _
    · exact absurd h101 (by omega)
  | succ r ih =>
    intro i A m cs hi hI hA2 hF hc1 hc2
    obtain ⟨⟨h0, h1, h2, h3, h4, h5, h6, h7, h8, h9⟩, ⟨a1, a2, a3⟩, ⟨gG, gE, gP, gF, gT, gU⟩, hS, hD, hC, q1, q2, q3, q4⟩ := id hI
    refine z_iload_n X dX7_init_98 rfl ?_
    refine z_bipush X dX7_init_99 (by decide) ?_
    refine z_icmp_ge X dX7_init_101 123 (by decide) (by omega) (by omega) (fun h101 => ?_) (fun h101 => ?_)
    · exact absurd h101 (by omega)
    · refine z_aload_n X dX7_init_104 rfl ?_
      refine z_getR X dX7_init_105 f_X7_11 rfl (by first | assumption | exact zbigA.o (by assumption)) (by assumption) ?_
      refine z_iload_n X dX7_init_108 rfl ?_
      refine z_newE X (t := 2) (n := 6) i (a := b + 37 + 4 * i) (w := 4) (Pc := fun A' m' => zsumA A' (b + 37 + 4 * i) ∧ zsumM m' (b + 37 + 4 * i) (fun _ _ => 0) 1 2) hA2 dX7_init_109 dX7_init_112 dX7_init_113 dX7_init_116 (by decide) c_X7_9 ia_6 in_6 rfl m_X6_init i_X6_init l_X7_59 ⟨Nat.le_of_ble_eq_true rfl, Nat.le_of_ble_eq_true rfl⟩ (by show cs.1 + 1 + 3 ≤ 148; omega) (by show cs.2 + 5 + 12 ≤ 7865; omega) (fun A1 m1 w1 w2 w3 => c_X6_init (zg E) w1 w2) (fun A1 m1 h => ⟨h.1.rs (by omega), h.2⟩) (fun A1 m1 h => h.1.1) rfl (by decide) rfl (by assumption) (by omega) (by omega) (by omega) (fun A1 m1 hP hr hA2' hG => ?_)
      refine z_iinc X dX7_init_117 rfl (fun y => [_, some (vi y)]) (fun _ => rfl) (fun z hz => ?_)
      obtain rfl : z = ((i + 1 : Nat) : Int) := by omega
      refine z_goto X dX7_init_120 98 (by decide) ?_
      have hI1 := hI.x hG (by omega) (by omega)
      obtain ⟨e0, e1, e2, hS1, hD1, hC1, e3⟩ := hI1
      refine ih (i + 1) A1 m1 _ (by omega) ⟨e0, e1, e2, (fun x hx => ?_), hD1, hC1, e3⟩ (by omega) (hF.t (hG.fr (n := b) (by omega) (by omega)) (by omega)) (by show cs.1 + 1 + 3 = _; omega) (by show cs.2 + 5 + 12 = _; omega)
      by_cases hxi : x = i
      · subst hxi; exact ⟨hr, hP.1, hP.2⟩
      · exact hS1 x (by omega)
theorem zl_7Span {E : zCx} (X : zOK E cX7_init RX7 2 none k_X7_init.2.2.2.2) {A0 : zA} {m0 : zM} {b : Nat} (K : ∀ (A : zA) (m : zM) (cs : Nat × Nat), zI7 b 6 8 0 A m → A.2.2 = b + 61 + 9 * 8 → zFr b A0 m0 A m → cs.1 = 60 + 9 * 8 → cs.2 = 4241 + 445 * 8 → ∀ l1, zW E cs A m 150 [some (vr b), l1] []) : ∀ (r i : Nat) (A : zA) (m : zM) (cs : Nat × Nat), i + r = 8 → zI7 b 6 i 0 A m → A.2.2 = b + 61 + 9 * i → zFr b A0 m0 A m → cs.1 = 60 + 9 * i → cs.2 = 4241 + 445 * i → zW E cs A m 125 [some (vr b), some (vi (i : Int))] [] := by
  intro r
  induction r with
  | zero =>
    intro i A m cs hi hI hA2 hF hc1 hc2
    obtain rfl : i = 8 := by omega
    refine z_iload_n X dX7_init_125 rfl ?_
    refine z_bipush X dX7_init_126 (by decide) ?_
    refine z_icmp_ge X dX7_init_128 150 (by decide) (by omega) (by omega) (fun h128 => ?_) (fun h128 => ?_)
    · exact K A m cs hI hA2 hF hc1 hc2 _
    · exact absurd h128 (by omega)
  | succ r ih =>
    intro i A m cs hi hI hA2 hF hc1 hc2
    obtain ⟨⟨h0, h1, h2, h3, h4, h5, h6, h7, h8, h9⟩, ⟨a1, a2, a3⟩, ⟨gG, gE, gP, gF, gT, gU⟩, hS, hD, hC, q1, q2, q3, q4⟩ := id hI
    refine z_iload_n X dX7_init_125 rfl ?_
    refine z_bipush X dX7_init_126 (by decide) ?_
    refine z_icmp_ge X dX7_init_128 150 (by decide) (by omega) (by omega) (fun h128 => ?_) (fun h128 => ?_)
    · exact absurd h128 (by omega)
    · refine z_aload_n X dX7_init_131 rfl ?_
      refine z_getR X dX7_init_132 f_X7_17 rfl (by first | assumption | exact zbigA.o (by assumption)) (by assumption) ?_
      refine z_iload_n X dX7_init_135 rfl ?_
      refine z_newE X (t := 3) (n := 8) i (a := b + 61 + 9 * i) (w := 9) (Pc := fun A' m' => zspanA A' (b + 61 + 9 * i) ∧ ∀ j, m' (b + 61 + 9 * i) j = 0) hA2 dX7_init_136 dX7_init_139 dX7_init_140 dX7_init_143 (by decide) c_X7_15 ia_5 in_5 rfl m_X5_init i_X5_init l_X7_41 ⟨Nat.le_of_ble_eq_true rfl, Nat.le_of_ble_eq_true rfl⟩ (by show cs.1 + 1 + 8 ≤ 148; omega) (by show cs.2 + 8 + 437 ≤ 7865; omega) (fun A1 m1 w1 w2 w3 => c_X5_init (zg E) w1 w2 w3) (fun A1 m1 h => ⟨h.1.rs (by omega), h.2⟩) (fun A1 m1 h => h.1.1) rfl (by decide) rfl (by assumption) (by omega) (by omega) (by omega) (fun A1 m1 hP hr hA2' hG => ?_)
      refine z_iinc X dX7_init_144 rfl (fun y => [_, some (vi y)]) (fun _ => rfl) (fun z hz => ?_)
      obtain rfl : z = ((i + 1 : Nat) : Int) := by omega
      refine z_goto X dX7_init_147 125 (by decide) ?_
      have hI1 := hI.x hG (by omega) (by omega)
      obtain ⟨e0, e1, e2, hS1, hD1, hC1, e3⟩ := hI1
      refine ih (i + 1) A1 m1 _ (by omega) ⟨e0, e1, e2, hS1, (fun x hx => ?_), hC1, e3⟩ (by omega) (hF.t (hG.fr (n := b) (by omega) (by omega)) (by omega)) (by show cs.1 + 1 + 8 = _; omega) (by show cs.2 + 8 + 437 = _; omega)
      by_cases hxi : x = i
      · subst hxi; exact ⟨hr, hP.1, hP.2 4, hP.2 5⟩
      · exact hD1 x (by omega)
theorem zl_7Constant {E : zCx} (X : zOK E cX7_init RX7 2 none k_X7_init.2.2.2.2) {A0 : zA} {m0 : zM} {b : Nat} (K : ∀ (A : zA) (m : zM) (cs : Nat × Nat), zI7 b 6 8 4 A m → A.2.2 = b + 133 + 4 * 4 → zFr b A0 m0 A m → cs.1 = 132 + 4 * 4 → cs.2 = 7801 + 16 * 4 → ∀ l1, zW E cs A m 176 [some (vr b), l1] []) : ∀ (r i : Nat) (A : zA) (m : zM) (cs : Nat × Nat), i + r = 4 → zI7 b 6 8 i A m → A.2.2 = b + 133 + 4 * i → zFr b A0 m0 A m → cs.1 = 132 + 4 * i → cs.2 = 7801 + 16 * i → zW E cs A m 152 [some (vr b), some (vi (i : Int))] [] := by
  intro r
  induction r with
  | zero =>
    intro i A m cs hi hI hA2 hF hc1 hc2
    obtain rfl : i = 4 := by omega
    refine z_iload_n X dX7_init_152 rfl ?_
    refine z_iconst X dX7_init_153 ?_
    refine z_icmp_ge X dX7_init_154 176 (by decide) (by omega) (by omega) (fun h154 => ?_) (fun h154 => ?_)
    · exact K A m cs hI hA2 hF hc1 hc2 _
    · exact absurd h154 (by omega)
  | succ r ih =>
    intro i A m cs hi hI hA2 hF hc1 hc2
    obtain ⟨⟨h0, h1, h2, h3, h4, h5, h6, h7, h8, h9⟩, ⟨a1, a2, a3⟩, ⟨gG, gE, gP, gF, gT, gU⟩, hS, hD, hC, q1, q2, q3, q4⟩ := id hI
    refine z_iload_n X dX7_init_152 rfl ?_
    refine z_iconst X dX7_init_153 ?_
    refine z_icmp_ge X dX7_init_154 176 (by decide) (by omega) (by omega) (fun h154 => ?_) (fun h154 => ?_)
    · exact absurd h154 (by omega)
    · refine z_aload_n X dX7_init_157 rfl ?_
      refine z_getR X dX7_init_158 f_X7_23 rfl (by first | assumption | exact zbigA.o (by assumption)) (by assumption) ?_
      refine z_iload_n X dX7_init_161 rfl ?_
      refine z_newE X (t := 4) (n := 4) i (a := b + 133 + 4 * i) (w := 4) (Pc := fun A' m' => zcoA A' (b + 133 + 4 * i) ∧ m' (b + 133 + 4 * i) 3 = 0) hA2 dX7_init_162 dX7_init_165 dX7_init_166 dX7_init_169 (by decide) c_X7_21 ia_1 in_1 rfl m_X1_init i_X1_init l_X7_60 ⟨Nat.le_of_ble_eq_true rfl, Nat.le_of_ble_eq_true rfl⟩ (by show cs.1 + 1 + 3 ≤ 148; omega) (by show cs.2 + 4 + 12 ≤ 7865; omega) (fun A1 m1 w1 w2 w3 => c_X1_init (zg E) w1 w2 w3) (fun A1 m1 h => ⟨h.1.rs (by omega), h.2⟩) (fun A1 m1 h => h.1.1) rfl (by decide) rfl (by assumption) (by omega) (by omega) (by omega) (fun A1 m1 hP hr hA2' hG => ?_)
      refine z_iinc X dX7_init_170 rfl (fun y => [_, some (vi y)]) (fun _ => rfl) (fun z hz => ?_)
      obtain rfl : z = ((i + 1 : Nat) : Int) := by omega
      refine z_goto X dX7_init_173 152 (by decide) ?_
      have hI1 := hI.x hG (by omega) (by omega)
      obtain ⟨e0, e1, e2, hS1, hD1, hC1, e3⟩ := hI1
      refine ih (i + 1) A1 m1 _ (by omega) ⟨e0, e1, e2, hS1, hD1, (fun x hx => ?_), e3⟩ (by omega) (hF.t (hG.fr (n := b) (by omega) (by omega)) (by omega)) (by show cs.1 + 1 + 3 = _; omega) (by show cs.2 + 4 + 12 = _; omega)
      by_cases hxi : x = i
      · subst hxi; exact ⟨hr, hP.1, hP.2⟩
      · exact hC1 x (by omega)
/-- the state of a new object -/
def zS0 : zSt := (fun _ _ _ => 0, fun _ => 1, fun _ => 2, fun _ => none, fun _ => (0, fun _ => (0, 0, 0)), none, 0, -6, 0, 0, fun _ => 0)
theorem c_X7_init (G : zG) {A : zA} {m : zM} {b : Nat} (hs : A.1 b = some (.inl 7)) (hn : A.2.2 = b + 1) (h0 : ∀ j, m b j = 0) : zMet G k_X7_init [vr b] A m (zpc (fun A' m' => (zmilA A' b ∧ zCR b m' zS0) ∧ A'.2.2 = b + 149 ∧ zFr b A m A' m')) := by
  refine zMet.of RX7 rfl (by decide +kernel) (Nat.le_of_ble_eq_true rfl) [some (vr b), none] rfl (fun E hG X hQ hNm => ?_)
  subst hG
  refine z_aload_n X dX7_init_0 rfl ?_
  refine z_objInit X dX7_init_1 l_X7_3 w_objLinkless w_objCode (by decide) (Nat.le_of_ble_eq_true rfl) ?_
  refine z_aload_n X dX7_init_4 rfl ?_
  refine z_bipush X dX7_init_5 (by decide) ?_
  refine z_anewarrF X (t := 2) (n := 6) dX7_init_7 dX7_init_10 (by decide) rfl c_X7_9 ao_6 rfl (by omega) (Nat.le_of_ble_eq_true rfl) (Nat.le_of_ble_eq_true rfl) f_X7_11 hNm fw_X7_11 rfl rfl rfl (fun _ => ⟨rfl, rfl⟩) rfl hs (by omega) (fun A0 m0 p0 r0 n0 g0 => ?_)
  have hs0 := (g0.1 b (by omega)).trans hs
  refine z_aload_n X dX7_init_13 rfl ?_
  refine z_bipush X dX7_init_14 (by decide) ?_
  refine z_anewarrF X (t := 3) (n := 8) dX7_init_16 dX7_init_19 (by decide) rfl c_X7_15 ao_5 rfl (by omega) (Nat.le_of_ble_eq_true rfl) (Nat.le_of_ble_eq_true rfl) f_X7_17 hNm fw_X7_17 rfl rfl rfl (fun _ => ⟨rfl, rfl⟩) rfl hs0 (by omega) (fun A1 m1 p1 r1 n1 g1 => ?_)
  have hs1 := (g1.1 b (by omega)).trans hs0
  refine z_aload_n X dX7_init_22 rfl ?_
  refine z_iconst X dX7_init_23 ?_
  refine z_anewarrF X (t := 4) (n := 4) dX7_init_24 dX7_init_27 (by decide) rfl c_X7_21 ao_1 rfl (by omega) (Nat.le_of_ble_eq_true rfl) (Nat.le_of_ble_eq_true rfl) f_X7_23 hNm fw_X7_23 rfl rfl rfl (fun _ => ⟨rfl, rfl⟩) rfl hs1 (by omega) (fun A2 m2 p2 r2 n2 g2 => ?_)
  have hs2 := (g2.1 b (by omega)).trans hs1
  refine z_aload_n X dX7_init_30 rfl ?_
  refine z_newF X (k := 3) (a := b + 4) (w := 9) (Pc := fun A' m' => zgrA A' (b + 4) ∧ ∀ j, m' (b + 4) j = 0) (by omega) dX7_init_31 dX7_init_34 dX7_init_35 dX7_init_38 (by decide) c_X7_27 ia_4 in_4 rfl m_X4_init i_X4_init l_X7_29 ⟨Nat.le_of_ble_eq_true rfl, Nat.le_of_ble_eq_true rfl⟩ (Nat.le_of_ble_eq_true rfl) (Nat.le_of_ble_eq_true rfl) (fun A1 m1 w1 w2 w3 => c_X4_init (zg E) w1 w2 w3) (fun A1 m1 h => ⟨h.1.rs (by omega), h.2⟩) f_X7_30 hNm fw_X7_30 rfl rfl rfl (fun _ => ⟨rfl, rfl⟩) rfl hs2 (by omega) (fun A3 m3 p3 r3 n3 g3 => ?_)
  have hs3 := (g3.1 b (by omega)).trans hs2
  refine z_aload_n X dX7_init_41 rfl ?_
  refine z_newF X (k := 4) (a := b + 13) (w := 9) (Pc := fun A' m' => zencA A' (b + 13) ∧ ∀ j, m' (b + 13) j = 0) (by omega) dX7_init_42 dX7_init_45 dX7_init_46 dX7_init_49 (by decide) c_X7_34 ia_2 in_2 rfl m_X2_init i_X2_init l_X7_36 ⟨Nat.le_of_ble_eq_true rfl, Nat.le_of_ble_eq_true rfl⟩ (Nat.le_of_ble_eq_true rfl) (Nat.le_of_ble_eq_true rfl) (fun A1 m1 w1 w2 w3 => c_X2_init (zg E) w1 w2 w3) (fun A1 m1 h => ⟨h.1.rs (by omega), h.2⟩) f_X7_37 hNm fw_X7_37 rfl rfl rfl (fun _ => ⟨rfl, rfl⟩) rfl hs3 (by omega) (fun A4 m4 p4 r4 n4 g4 => ?_)
  have hs4 := (g4.1 b (by omega)).trans hs3
  refine z_aload_n X dX7_init_52 rfl ?_
  refine z_newF X (k := 5) (a := b + 22) (w := 9) (Pc := fun A' m' => zspanA A' (b + 22) ∧ ∀ j, m' (b + 22) j = 0) (by omega) dX7_init_53 dX7_init_56 dX7_init_57 dX7_init_60 (by decide) c_X7_15 ia_5 in_5 rfl m_X5_init i_X5_init l_X7_41 ⟨Nat.le_of_ble_eq_true rfl, Nat.le_of_ble_eq_true rfl⟩ (Nat.le_of_ble_eq_true rfl) (Nat.le_of_ble_eq_true rfl) (fun A1 m1 w1 w2 w3 => c_X5_init (zg E) w1 w2 w3) (fun A1 m1 h => ⟨h.1.rs (by omega), h.2⟩) f_X7_42 hNm fw_X7_42 rfl rfl rfl (fun _ => ⟨rfl, rfl⟩) rfl hs4 (by omega) (fun A5 m5 p5 r5 n5 g5 => ?_)
  have hs5 := (g5.1 b (by omega)).trans hs4
  refine z_aload_n X dX7_init_63 rfl ?_
  refine z_newF X (k := 6) (a := b + 31) (w := 2) (Pc := fun A' m' => zfigA A' (b + 31) ∧ m' (b + 31) 6 = -6 ∧ m' (b + 31) 5 = 0 ∧ m' (b + 31) 7 = 0) (by omega) dX7_init_64 dX7_init_67 dX7_init_68 dX7_init_71 (by decide) c_X7_46 ia_3 in_3 rfl m_X3_init i_X3_init l_X7_48 ⟨Nat.le_of_ble_eq_true rfl, Nat.le_of_ble_eq_true rfl⟩ (Nat.le_of_ble_eq_true rfl) (Nat.le_of_ble_eq_true rfl) (fun A1 m1 w1 w2 w3 => c_X3_init (zg E) w1 w2 w3) (fun A1 m1 h => ⟨h.1.rs (by omega), h.2⟩) f_X7_49 hNm fw_X7_49 rfl rfl rfl (fun _ => ⟨rfl, rfl⟩) rfl hs5 (by omega) (fun A6 m6 p6 r6 n6 g6 => ?_)
  have hs6 := (g6.1 b (by omega)).trans hs5
  refine z_aload_n X dX7_init_74 rfl ?_
  refine z_newF X (k := 7) (a := b + 33) (w := 2) (Pc := fun A' m' => zfigA A' (b + 33) ∧ m' (b + 33) 6 = -6 ∧ m' (b + 33) 5 = 0 ∧ m' (b + 33) 7 = 0) (by omega) dX7_init_75 dX7_init_78 dX7_init_79 dX7_init_82 (by decide) c_X7_46 ia_3 in_3 rfl m_X3_init i_X3_init l_X7_48 ⟨Nat.le_of_ble_eq_true rfl, Nat.le_of_ble_eq_true rfl⟩ (Nat.le_of_ble_eq_true rfl) (Nat.le_of_ble_eq_true rfl) (fun A1 m1 w1 w2 w3 => c_X3_init (zg E) w1 w2 w3) (fun A1 m1 h => ⟨h.1.rs (by omega), h.2⟩) f_X7_53 hNm fw_X7_53 rfl rfl rfl (fun _ => ⟨rfl, rfl⟩) rfl hs6 (by omega) (fun A7 m7 p7 r7 n7 g7 => ?_)
  have hs7 := (g7.1 b (by omega)).trans hs6
  refine z_aload_n X dX7_init_85 rfl ?_
  refine z_newF X (k := 8) (a := b + 35) (w := 2) (Pc := fun A' m' => zfigA A' (b + 35) ∧ m' (b + 35) 6 = -6 ∧ m' (b + 35) 5 = 0 ∧ m' (b + 35) 7 = 0) (by omega) dX7_init_86 dX7_init_89 dX7_init_90 dX7_init_93 (by decide) c_X7_46 ia_3 in_3 rfl m_X3_init i_X3_init l_X7_48 ⟨Nat.le_of_ble_eq_true rfl, Nat.le_of_ble_eq_true rfl⟩ (Nat.le_of_ble_eq_true rfl) (Nat.le_of_ble_eq_true rfl) (fun A1 m1 w1 w2 w3 => c_X3_init (zg E) w1 w2 w3) (fun A1 m1 h => ⟨h.1.rs (by omega), h.2⟩) f_X7_56 hNm fw_X7_56 rfl rfl rfl (fun _ => ⟨rfl, rfl⟩) rfl hs7 (by omega) (fun A8 m8 p8 r8 n8 g8 => ?_)
  have hs8 := (g8.1 b (by omega)).trans hs7
  refine z_iconst X dX7_init_96 ?_
  refine z_istore_n X dX7_init_97 (fun y => [_, some (vi y)]) (by decide) (fun _ => rfl) (fun x1_97 hx1_97 => ?_)
  subst hx1_97
  have hA8 : A8.2.2 = b + 37 + 4 * 0 := by omega
  rw [hn] at p0 r0
  rw [(show A0.2.2 = b + 2 by omega)] at p1 r1
  rw [(show A1.2.2 = b + 3 by omega)] at p2 r2
  have R0 := ((g8.2.1 b 0 (by omega) (by omega)).trans ((g7.2.1 b 0 (by omega) (by omega)).trans ((g6.2.1 b 0 (by omega) (by omega)).trans ((g5.2.1 b 0 (by omega) (by omega)).trans ((g4.2.1 b 0 (by omega) (by omega)).trans ((g3.2.1 b 0 (by omega) (by omega)).trans ((g2.2.1 b 0 (by omega) (by omega)).trans ((g1.2.1 b 0 (by omega) (by omega)).trans r0))))))))
  have R1 := ((g8.2.1 b 1 (by omega) (by omega)).trans ((g7.2.1 b 1 (by omega) (by omega)).trans ((g6.2.1 b 1 (by omega) (by omega)).trans ((g5.2.1 b 1 (by omega) (by omega)).trans ((g4.2.1 b 1 (by omega) (by omega)).trans ((g3.2.1 b 1 (by omega) (by omega)).trans ((g2.2.1 b 1 (by omega) (by omega)).trans r1)))))))
  have R2 := ((g8.2.1 b 2 (by omega) (by omega)).trans ((g7.2.1 b 2 (by omega) (by omega)).trans ((g6.2.1 b 2 (by omega) (by omega)).trans ((g5.2.1 b 2 (by omega) (by omega)).trans ((g4.2.1 b 2 (by omega) (by omega)).trans ((g3.2.1 b 2 (by omega) (by omega)).trans r2))))))
  have R3 := ((g8.2.1 b 3 (by omega) (by omega)).trans ((g7.2.1 b 3 (by omega) (by omega)).trans ((g6.2.1 b 3 (by omega) (by omega)).trans ((g5.2.1 b 3 (by omega) (by omega)).trans ((g4.2.1 b 3 (by omega) (by omega)).trans r3)))))
  have R4 := ((g8.2.1 b 4 (by omega) (by omega)).trans ((g7.2.1 b 4 (by omega) (by omega)).trans ((g6.2.1 b 4 (by omega) (by omega)).trans ((g5.2.1 b 4 (by omega) (by omega)).trans r4))))
  have R5 := ((g8.2.1 b 5 (by omega) (by omega)).trans ((g7.2.1 b 5 (by omega) (by omega)).trans ((g6.2.1 b 5 (by omega) (by omega)).trans r5)))
  have R6 := ((g8.2.1 b 6 (by omega) (by omega)).trans ((g7.2.1 b 6 (by omega) (by omega)).trans r6))
  have R7 := ((g8.2.1 b 7 (by omega) (by omega)).trans r7)
  have R8 := r8
  have P0 := ((g8.1 _ (by omega)).trans ((g7.1 _ (by omega)).trans ((g6.1 _ (by omega)).trans ((g5.1 _ (by omega)).trans ((g4.1 _ (by omega)).trans ((g3.1 _ (by omega)).trans ((g2.1 _ (by omega)).trans ((g1.1 _ (by omega)).trans p0))))))))
  have P1 := ((g8.1 _ (by omega)).trans ((g7.1 _ (by omega)).trans ((g6.1 _ (by omega)).trans ((g5.1 _ (by omega)).trans ((g4.1 _ (by omega)).trans ((g3.1 _ (by omega)).trans ((g2.1 _ (by omega)).trans p1)))))))
  have P2 := ((g8.1 _ (by omega)).trans ((g7.1 _ (by omega)).trans ((g6.1 _ (by omega)).trans ((g5.1 _ (by omega)).trans ((g4.1 _ (by omega)).trans ((g3.1 _ (by omega)).trans p2))))))
  have P3 := (((((p3.1.x g4 (by omega)).x g5 (by omega)).x g6 (by omega)).x g7 (by omega)).x g8 (by omega))
  have P4 := ((((p4.1.x g5 (by omega)).x g6 (by omega)).x g7 (by omega)).x g8 (by omega))
  have P5 := (((p5.1.x g6 (by omega)).x g7 (by omega)).x g8 (by omega))
  have P6 := ((p6.1.x g7 (by omega)).x g8 (by omega))
  have P7 := (p7.1.x g8 (by omega))
  have P8 := p8.1
  have Fa := ((g8.2.2 _ _ (by omega)).trans ((g7.2.2 _ _ (by omega)).trans p6.2.1))
  have Fb := ((g8.2.2 _ _ (by omega)).trans ((g7.2.2 _ _ (by omega)).trans p6.2.2.1))
  have Fc := ((g8.2.2 _ _ (by omega)).trans ((g7.2.2 _ _ (by omega)).trans p6.2.2.2))
  have M9 := ((g8.2.2 b 9 (by omega)).trans (((g7.2.2 b 9 (by omega)).trans (((g6.2.2 b 9 (by omega)).trans (((g5.2.2 b 9 (by omega)).trans (((g4.2.2 b 9 (by omega)).trans (((g3.2.2 b 9 (by omega)).trans (((g2.2.2 b 9 (by omega)).trans (((g1.2.2 b 9 (by omega)).trans (((g0.2.2 b 9 (by omega)).trans (h0 9))))))))))))))))))
  have hF := (((((((((g0.fr (n := b) (by omega) (by omega)).t (g1.fr (n := b) (by omega) (by omega)) (by omega)).t (g2.fr (n := b) (by omega) (by omega)) (by omega)).t (g3.fr (n := b) (by omega) (by omega)) (by omega)).t (g4.fr (n := b) (by omega) (by omega)) (by omega)).t (g5.fr (n := b) (by omega) (by omega)) (by omega)).t (g6.fr (n := b) (by omega) (by omega)) (by omega)).t (g7.fr (n := b) (by omega) (by omega)) (by omega)).t (g8.fr (n := b) (by omega) (by omega)) (by omega))
  refine zl_7Sum X (fun B1 n1 cs1 I1 s1 f1 u1 v1 l1 => ?_) 6 0 A8 m8 _ (by omega) ⟨⟨hs8, R0, R1, R2, R3, R4, R5, R6, R7, R8⟩, ⟨P0, P1, P2⟩, ⟨P3, P4, P5, P6, P7, P8⟩, fun x hx => absurd hx (by omega), fun x hx => absurd hx (by omega), fun x hx => absurd hx (by omega), M9, Fa, Fb, Fc⟩ hA8 hF rfl rfl
  refine z_iconst X dX7_init_123 ?_
  refine z_istore_n X dX7_init_124 (fun y => [_, some (vi y)]) (by decide) (fun _ => rfl) (fun x1_124 hx1_124 => ?_)
  subst hx1_124
  refine zl_7Span X (fun B2 n2 cs2 I2 s2 f2 u2 v2 l2 => ?_) 8 0 B1 n1 cs1 (by omega) I1 (by omega) f1 (by omega) (by omega)
  refine z_iconst X dX7_init_150 ?_
  refine z_istore_n X dX7_init_151 (fun y => [_, some (vi y)]) (by decide) (fun _ => rfl) (fun x1_151 hx1_151 => ?_)
  subst hx1_151
  refine zl_7Constant X (fun B3 n3 cs3 I3 s3 f3 u3 v3 l3 => ?_) 4 0 B2 n2 cs2 (by omega) I2 (by omega) f2 (by omega) (by omega)
  obtain ⟨e0, e1, e2, hS, hD, hC, q1, q2, q3, q4⟩ := I3
  have hQ' : zRet E (zpc (fun A' m' => (zmilA A' b ∧ zCR b m' zS0) ∧ A'.2.2 = b + 149 ∧ zFr b A m A' m')) cs3.1 cs3.2 := by rw [show cs3.1 = 148 by omega, show cs3.2 = 7865 by omega]; exact hQ
  refine z_return (st := []) X rfl hQ' dX7_init_176 ⟨rfl, ⟨⟨e0, e1, e2, fun i hi => ⟨(hS i hi).1, (hS i hi).2.1⟩, fun i hi => ⟨(hD i hi).1, (hD i hi).2.1⟩, fun i hi => ⟨(hC i hi).1, (hC i hi).2.1⟩⟩, fun s hs => (hS s hs).2.2, fun d hd => ⟨?_, (hD d hd).2.2.1⟩, fun c hc => ⟨(hC c hc).2.2, fun i hi => absurd hi (Nat.not_lt_zero i)⟩, ⟨⟨q2, Or.inl ⟨rfl, rfl⟩, fun j hj => absurd hj (Nat.not_lt_zero j)⟩, q3, q4⟩, q1⟩, by omega, f3⟩
  have := (hD d hd).2.2.2
  omega

/-! Big: the small ones -/
def zbigA (A : zA) (q N : Nat) : Prop := A.1 q = some (.inl 0) ∧ A.2.1 q 0 = some (q + 1) ∧ A.1 (q + 1) = some (.inr (0, N))
theorem zbigA.ap {A : zA} {q x N M : Nat} (h : zbigA A q N) (g : zbigA A x M) (hne : x ≠ q) : x ≠ q + 1 ∧ x + 1 ≠ q := by
  refine ⟨fun e => ?_, fun e => ?_⟩
  · subst e
    have := h.2.2.symm.trans g.1
    simp at this
  · subst e
    have := g.2.2.symm.trans h.1
    simp at this
/-- the raw rows: n limbs -/
def zraw (m : zM) (q N n : Nat) : Prop := m q 1 = (n : Int) ∧ n ≤ N ∧ ∀ i, i < n → 0 ≤ m (q + 1) i ∧ m (q + 1) i < 1073741824
/-- the number v lies at q -/
def zbi (m : zM) (q N : Nat) (v : Int) : Prop := ∃ n : Nat, zraw m q N n ∧ (n ≠ 0 → m (q + 1) (n - 1) ≠ 0) ∧ ((m q 2 = 0 ∧ v = zsum 1073741824 (m (q + 1)) n) ∨ (m q 2 = 1 ∧ n ≠ 0 ∧ v = - zsum 1073741824 (m (q + 1)) n))
/-- nothing else is changed -/
def zfr (m m' : zM) (q : Nat) : Prop := ∀ a j, a ≠ q → a ≠ q + 1 → m' a j = m a j
theorem zfr.rfl' {m : zM} {q : Nat} : zfr m m q := fun _ _ _ _ => rfl
theorem zfr.trans {m m1 m2 : zM} {q : Nat} (h : zfr m m1 q) (g : zfr m1 m2 q) : zfr m m2 q := fun a j h1 h2 => (g a j h1 h2).trans (h a j h1 h2)
theorem zbi.fr {m m' : zM} {q x N : Nat} {v : Int} (h : zbi m x N v) (hf : ∀ j, m' x j = m x j) (hf2 : ∀ j, m' (x + 1) j = m (x + 1) j) : zbi m' x N v := by
  have e1 : m' x = m x := funext hf
  have e2 : m' (x + 1) = m (x + 1) := funext hf2
  unfold zbi zraw at h ⊢
  rw [e1, e2]
  exact h
theorem c_X0_put (G : zG) {A : zA} {m : zM} {q N : Nat} {v : Int} (hA : zbigA A q N) (hN : 1 ≤ N) (hv : 0 ≤ v ∧ v < 1073741824) : zMet G k_X0_put [vr q, vi v] A m (zpv A (fun m' => zbi m' q N v ∧ zfr m m' q)) := by
  obtain ⟨hA1, hA2, hA3⟩ := hA
  refine zMet.of RX0 rfl (by decide +kernel) (Nat.le_of_ble_eq_true rfl) [some (vr q), some (vi v)] rfl (fun E hG X hQ hNm => ?_)
  subst hG
  refine z_aload_n X dX0_put_0 rfl ?_
  refine z_getR X dX0_put_1 f_X0_9 rfl (by assumption) (by assumption) ?_
  refine z_iconst X dX0_put_4 ?_
  refine z_iload_n X dX0_put_5 rfl ?_
  refine z_iast X (0) dX0_put_6 (by omega) (by assumption) (by omega) (by omega) ?_
  refine z_aload_n X dX0_put_7 rfl ?_
  refine z_iload_n X dX0_put_8 rfl ?_
  refine z_if_ne X dX0_put_9 16 (by decide) (by omega) (fun h9 => ?_) (fun h9 => ?_)
  · refine z_iconst X dX0_put_16 ?_
    refine z_putI X dX0_put_17 f_X0_15 rfl rfl (by assumption) ?_
    refine z_aload_n X dX0_put_20 rfl ?_
    refine z_iconst X dX0_put_21 ?_
    refine z_putZ X dX0_put_22 f_X0_19 (by first | exact Or.inl rfl | exact Or.inr rfl | omega) rfl rfl (by assumption) ?_
    refine z_return (st := []) X rfl hQ dX0_put_25 ⟨rfl, rfl, ?_⟩
    sorry
  · refine z_iconst X dX0_put_12 ?_
    refine z_goto X dX0_put_13 17 (by decide) ?_
    refine z_putI X dX0_put_17 f_X0_15 rfl rfl (by assumption) ?_
    refine z_aload_n X dX0_put_20 rfl ?_
    refine z_iconst X dX0_put_21 ?_
    refine z_putZ X dX0_put_22 f_X0_19 (by first | exact Or.inl rfl | exact Or.inr rfl | omega) rfl rfl (by assumption) ?_
    refine z_return (st := []) X rfl hQ dX0_put_25 ⟨rfl, rfl, ?_⟩
    sorry
theorem c_X0_negate (G : zG) {A : zA} {m : zM} {q N : Nat} {v : Int} (hA : zbigA A q N) (hb : zbi m q N v) (hN : N < 2147483648) : zMet G k_X0_negate [vr q] A m (zpv A (fun m' => zbi m' q N (-v) ∧ zfr m m' q)) := by
  obtain ⟨hA1, hA2, hA3⟩ := hA
  obtain ⟨n, ⟨e1, hn, hl⟩, ht, hs⟩ := hb
  refine zMet.of RX0 rfl (by decide +kernel) (Nat.le_of_ble_eq_true rfl) [some (vr q)] rfl (fun E hG X hQ hNm => ?_)
  subst hG
  refine z_aload_n X dX0_negate_0 rfl ?_
  refine z_aload_n X dX0_negate_1 rfl ?_
  refine z_getI X dX0_negate_2 f_X0_15 rfl (by assumption) ?_
  refine z_if_le X dX0_negate_5 19 (by decide) (by omega) (fun h5 => ?_) (fun h5 => ?_)
  · refine z_iconst X dX0_negate_19 ?_
    refine z_putZ X dX0_negate_20 f_X0_19 (by first | exact Or.inl rfl | exact Or.inr rfl | omega) rfl rfl (by assumption) ?_
    refine z_return (st := []) X rfl hQ dX0_negate_23 ⟨rfl, rfl, ?_⟩
    sorry
  · refine z_aload_n X dX0_negate_8 rfl ?_
    refine z_getI X dX0_negate_9 f_X0_19 rfl (by assumption) ?_
    refine z_if_ne X dX0_negate_12 19 (by decide) (by omega) (fun h12 => ?_) (fun h12 => ?_)
    · refine z_iconst X dX0_negate_19 ?_
      refine z_putZ X dX0_negate_20 f_X0_19 (by first | exact Or.inl rfl | exact Or.inr rfl | omega) rfl rfl (by assumption) ?_
      refine z_return (st := []) X rfl hQ dX0_negate_23 ⟨rfl, rfl, ?_⟩
      sorry
    · refine z_iconst X dX0_negate_15 ?_
      refine z_goto X dX0_negate_16 20 (by decide) ?_
      refine z_putZ X dX0_negate_20 f_X0_19 (by first | exact Or.inl rfl | exact Or.inr rfl | omega) rfl rfl (by assumption) ?_
      refine z_return (st := []) X rfl hQ dX0_negate_23 ⟨rfl, rfl, ?_⟩
      sorry

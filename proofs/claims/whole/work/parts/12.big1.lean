/-! Big: the small ones -/
def zbigA (A : zA) (q N : Nat) : Prop := A.1 q = some (.inl 0) ∧ A.2.1 q 0 = some (q + 1) ∧ A.1 (q + 1) = some (.inr (0, N)) ∧ 1 ≤ N ∧ N < 100000
theorem zbigA.o {A : zA} {q N : Nat} (h : zbigA A q N) : A.1 q = some (.inl 0) := h.1
theorem zbigA.ap {A : zA} {q x N M : Nat} (h : zbigA A q N) (g : zbigA A x M) (hne : x ≠ q) : x ≠ q + 1 ∧ x + 1 ≠ q := by
  refine ⟨fun e => ?_, fun e => ?_⟩
  · subst e
    have := h.2.2.1.symm.trans g.1
    simp at this
  · subst e
    have := g.2.2.1.symm.trans h.1
    simp at this
/-- the raw rows: n limbs -/
def zraw (m : zM) (q N n : Nat) : Prop := m q 1 = (n : Int) ∧ n ≤ N ∧ ∀ i, i < n → 0 ≤ m (q + 1) i ∧ m (q + 1) i < 1073741824
/-- the number v lies at q -/
def zbi (m : zM) (q N : Nat) (v : Int) : Prop := ∃ n : Nat, zraw m q N n ∧ (n ≠ 0 → m (q + 1) (n - 1) ≠ 0) ∧ ((m q 2 = 0 ∧ v = zsum 1073741824 (m (q + 1)) n) ∨ (m q 2 = 1 ∧ n ≠ 0 ∧ v = - zsum 1073741824 (m (q + 1)) n))
/-- nothing else is changed -/
def zfr (m m' : zM) (q : Nat) : Prop := ∀ a j, a ≠ q → a ≠ q + 1 → m' a j = m a j
theorem zfr.rfl' {m : zM} {q : Nat} : zfr m m q := fun _ _ _ _ => rfl
theorem zfr.trans {m m1 m2 : zM} {q : Nat} (h : zfr m m1 q) (g : zfr m1 m2 q) : zfr m m2 q := fun a j h1 h2 => (g a j h1 h2).trans (h a j h1 h2)
theorem zbi.fr {m m' : zM} {x N : Nat} {v : Int} (h : zbi m x N v) (hf : ∀ j, m' x j = m x j) (hf2 : ∀ j, m' (x + 1) j = m (x + 1) j) : zbi m' x N v := by
  have e1 : m' x = m x := funext hf
  have e2 : m' (x + 1) = m (x + 1) := funext hf2
  unfold zbi zraw at h ⊢
  rw [e1, e2]
  exact h
theorem zms_zms (m : zM) (q k : Nat) (v w : Int) : zms (zms m q k v) q k w = zms m q k w := by
  funext a j
  unfold zms
  split <;> rfl
theorem c_X0_put (G : zG) {A : zA} {m : zM} {q N : Nat} {v : Int} (hA : zbigA A q N) (hv : 0 ≤ v ∧ v < 1073741824) : zMet G k_X0_put [vr q, vi v] A m (zpv A (fun m' => zbi m' q N v ∧ zfr m m' q)) := by
  obtain ⟨hA1, hA2, hA3, hN, hN2⟩ := hA
  refine zMet.of RX0 rfl (by decide +kernel) (Nat.le_of_ble_eq_true rfl) [some (vr q), some (vi v)] rfl (fun E hG X hQ hNm => ?_)
  subst hG
  refine z_aload_n X dX0_put_0 rfl ?_
  refine z_getR X dX0_put_1 f_X0_9 rfl (by assumption) (by assumption) ?_
  refine z_iconst X dX0_put_4 ?_
  refine z_iload_n X dX0_put_5 rfl ?_
  refine z_iast X (0) dX0_put_6 (by omega) (by assumption) (by omega) (by omega) ?_
  refine z_aload_n X dX0_put_7 rfl ?_
  refine z_iload_n X dX0_put_8 rfl ?_
  refine z_if_ne X dX0_put_9 16 (by decide) (by omega) (fun h9 => ?_) (fun h9 => ?_)
  · refine z_iconst X dX0_put_16 ?_
    refine z_putI X dX0_put_17 f_X0_15 rfl rfl (by assumption) ?_
    refine z_aload_n X dX0_put_20 rfl ?_
    refine z_iconst X dX0_put_21 ?_
    refine z_putZ X dX0_put_22 f_X0_19 (by first | exact Or.inl rfl | exact Or.inr rfl | omega) rfl rfl (by assumption) ?_
    refine z_return (st := []) X rfl hQ dX0_put_25 ⟨rfl, rfl, ?_⟩
    refine ⟨⟨1, ⟨by simp [zms], hN, fun i hi => ?_⟩, fun _ => by simp [zms]; omega, Or.inl ⟨by simp [zms], by simp [zms, zsum]⟩⟩, fun a j h1 h2 => by simp [zms, h1, h2]⟩
    have : i = 0 := by omega
    subst this
    simp [zms]
    omega
  · refine z_iconst X dX0_put_12 ?_
    refine z_goto X dX0_put_13 17 (by decide) ?_
    refine z_putI X dX0_put_17 f_X0_15 rfl rfl (by assumption) ?_
    refine z_aload_n X dX0_put_20 rfl ?_
    refine z_iconst X dX0_put_21 ?_
    refine z_putZ X dX0_put_22 f_X0_19 (by first | exact Or.inl rfl | exact Or.inr rfl | omega) rfl rfl (by assumption) ?_
    refine z_return (st := []) X rfl hQ dX0_put_25 ⟨rfl, rfl, ?_⟩
    refine ⟨⟨0, ⟨by simp [zms], by omega, fun i hi => absurd hi (by omega)⟩, fun h => absurd rfl h, Or.inl ⟨by simp [zms], by simp [zsum]; omega⟩⟩, fun a j h1 h2 => by simp [zms, h1, h2]⟩
theorem c_X0_negate (G : zG) {A : zA} {m : zM} {q N : Nat} {v : Int} (hA : zbigA A q N) (hb : zbi m q N v) : zMet G k_X0_negate [vr q] A m (zpv A (fun m' => zbi m' q N (-v) ∧ zfr m m' q)) := by
  obtain ⟨hA1, hA2, hA3, hN, hN2⟩ := hA
  obtain ⟨n, ⟨e1, hn, hl⟩, ht, hs⟩ := hb
  refine zMet.of RX0 rfl (by decide +kernel) (Nat.le_of_ble_eq_true rfl) [some (vr q)] rfl (fun E hG X hQ hNm => ?_)
  subst hG
  refine z_aload_n X dX0_negate_0 rfl ?_
  refine z_aload_n X dX0_negate_1 rfl ?_
  refine z_getI X dX0_negate_2 f_X0_15 rfl (by assumption) ?_
  refine z_if_le X dX0_negate_5 19 (by decide) (by omega) (fun h5 => ?_) (fun h5 => ?_)
  · refine z_iconst X dX0_negate_19 ?_
    refine z_putZ X dX0_negate_20 f_X0_19 (by first | exact Or.inl rfl | exact Or.inr rfl | omega) rfl rfl (by assumption) ?_
    refine z_return (st := []) X rfl hQ dX0_negate_23 ⟨rfl, rfl, ?_⟩
    have h0 : n = 0 := by omega
    subst h0
    refine ⟨⟨0, ⟨by simp [zms, e1], by omega, fun i hi => absurd hi (by omega)⟩, fun h => absurd rfl h, Or.inl ⟨by simp [zms], ?_⟩⟩, fun a j h1 h2 => by simp [zms, h1, h2]⟩
    rcases hs with ⟨_, hs⟩ | ⟨_, hs, _⟩
    · rw [hs]; simp [zsum]
    · exact absurd rfl hs
  · refine z_aload_n X dX0_negate_8 rfl ?_
    refine z_getI X dX0_negate_9 f_X0_19 rfl (by assumption) ?_
    refine z_if_ne X dX0_negate_12 19 (by decide) (by omega) (fun h12 => ?_) (fun h12 => ?_)
    · refine z_iconst X dX0_negate_19 ?_
      refine z_putZ X dX0_negate_20 f_X0_19 (by first | exact Or.inl rfl | exact Or.inr rfl | omega) rfl rfl (by assumption) ?_
      refine z_return (st := []) X rfl hQ dX0_negate_23 ⟨rfl, rfl, ?_⟩
      refine ⟨⟨n, ⟨by simp [zms, e1], hn, fun i hi => by simpa [zms] using hl i hi⟩, fun h => by simpa [zms] using ht h, Or.inl ⟨by simp [zms], ?_⟩⟩, fun a j h1 h2 => by simp [zms, h1, h2]⟩
      rcases hs with ⟨hs, _⟩ | ⟨_, _, hs⟩
      · omega
      · rw [hs, Int.neg_neg]; exact zsum_congr (fun i _ => by simp [zms])
    · refine z_iconst X dX0_negate_15 ?_
      refine z_goto X dX0_negate_16 20 (by decide) ?_
      refine z_putZ X dX0_negate_20 f_X0_19 (by first | exact Or.inl rfl | exact Or.inr rfl | omega) rfl rfl (by assumption) ?_
      refine z_return (st := []) X rfl hQ dX0_negate_23 ⟨rfl, rfl, ?_⟩
      refine ⟨⟨n, ⟨by simp [zms, e1], hn, fun i hi => by simpa [zms] using hl i hi⟩, fun h => by simpa [zms] using ht h, Or.inr ⟨by simp [zms], by omega, ?_⟩⟩, fun a j h1 h2 => by simp [zms, h1, h2]⟩
      rcases hs with ⟨_, hs⟩ | ⟨hs, _⟩
      · rw [hs]; exact congrArg (- ·) (zsum_congr (fun i _ => by simp [zms]))
      · omega
theorem c_X0_append (G : zG) {A : zA} {m : zM} {q N n : Nat} {c : Int} (hA : zbigA A q N) (e1 : m q 1 = (n : Int)) (hn : n ≤ N) (hc : -2147483648 ≤ c ∧ c < 2147483648) : zMet G k_X0_append [vr q, vi c] A m (zpv A (fun m' => m' = if c ≠ 0 ∧ n < N then zms (zms m (q + 1) n c) q 1 ((n : Int) + 1) else m)) := by
  obtain ⟨hA1, hA2, hA3, hN, hN2⟩ := hA
  refine zMet.of RX0 rfl (by decide +kernel) (Nat.le_of_ble_eq_true rfl) [some (vr q), some (vi c)] rfl (fun E hG X hQ hNm => ?_)
  subst hG
  refine z_iload_n X dX0_append_0 rfl ?_
  refine z_if_eq X dX0_append_1 36 (by decide) (by omega) (fun h1 => ?_) (fun h1 => ?_)
  · refine z_return (st := []) X rfl hQ dX0_append_36 ⟨rfl, rfl, ?_⟩
    rw [if_neg (by omega)]
  · refine z_aload_n X dX0_append_4 rfl ?_
    refine z_getI X dX0_append_5 f_X0_15 rfl (by assumption) ?_
    refine z_aload_n X dX0_append_8 rfl ?_
    refine z_getR X dX0_append_9 f_X0_9 rfl (by assumption) (by assumption) ?_
    refine z_alen X dX0_append_12 (by assumption) ?_
    refine z_icmp_ge X dX0_append_13 36 (by decide) (by omega) (by omega) (fun h13 => ?_) (fun h13 => ?_)
    · refine z_return (st := []) X rfl hQ dX0_append_36 ⟨rfl, rfl, ?_⟩
      rw [if_neg (by omega)]
    · refine z_aload_n X dX0_append_16 rfl ?_
      refine z_getR X dX0_append_17 f_X0_9 rfl (by assumption) (by assumption) ?_
      refine z_aload_n X dX0_append_20 rfl ?_
      refine z_getI X dX0_append_21 f_X0_15 rfl (by assumption) ?_
      refine z_iload_n X dX0_append_24 rfl ?_
      refine z_iast X (n) dX0_append_25 (by omega) (by assumption) (by omega) (by omega) ?_
      refine z_aload_n X dX0_append_26 rfl ?_
      refine z_dup X dX0_append_27 rfl ?_
      refine z_getI X dX0_append_28 f_X0_15 rfl (by assumption) ?_
      refine z_iconst X dX0_append_31 ?_
      refine z_iadd X dX0_append_32 ?_
      refine z_putI X dX0_append_33 f_X0_15 rfl rfl (by assumption) ?_
      refine z_return (st := []) X rfl hQ dX0_append_36 ⟨rfl, rfl, ?_⟩
      rw [if_pos (by omega)]
      rw [zms_nq _ _ _ _ _ (by omega : q ≠ q + 1), e1]
theorem zl_trim {E : zCx} {rm : Room} {cs : Nat × Nat} {A : zA} (X : zOK E cX0_trim RX0 1 none rm) {q N : Nat} (hA : zbigA A q N) : ∀ (n : Nat) (m : zM), m q 1 = (n : Int) → n ≤ N → (∀ i, i < n → 0 ≤ m (q + 1) i ∧ m (q + 1) i < 1073741824) →
    (∀ k : Nat, k ≤ n → (∀ i, k ≤ i → i < n → m (q + 1) i = 0) → (k ≠ 0 → m (q + 1) (k - 1) ≠ 0) → zW E cs A (zms m q 1 (k : Int)) 34 [some (vr q)] []) → zW E cs A m 0 [some (vr q)] [] := by
  obtain ⟨hA1, hA2, hA3, hN, hN2⟩ := id hA
  have same : ∀ (m : zM) (n : Nat), m q 1 = (n : Int) → zms m q 1 (n : Int) = m := fun m n h => by
    funext a j
    unfold zms
    split
    · rename_i h1; rw [h1.1, h1.2, h]
    · rfl
  intro n
  induction n with
  | zero =>
    intro m e1 hn hl K
    refine z_aload_n X dX0_trim_0 rfl ?_
    refine z_getI X dX0_trim_1 f_X0_15 rfl (by assumption) ?_
    refine z_if_le X dX0_trim_4 34 (by decide) (by omega) (fun h4 => ?_) (fun h4 => ?_)
    · have h := K 0 (by omega) (fun i _ h => absurd h (by omega)) (fun h => absurd rfl h)
      rw [same m 0 e1] at h
      exact h
    · exact absurd e1 (by omega)
  | succ n ih =>
    intro m e1 hn hl K
    have hl0 := hl n (by omega)
    refine z_aload_n X dX0_trim_0 rfl ?_
    refine z_getI X dX0_trim_1 f_X0_15 rfl (by assumption) ?_
    refine z_if_le X dX0_trim_4 34 (by decide) (by omega) (fun h4 => ?_) (fun h4 => ?_)
    · exact absurd e1 (by omega)
    · refine z_aload_n X dX0_trim_7 rfl ?_
      refine z_getR X dX0_trim_8 f_X0_9 rfl (by assumption) (by assumption) ?_
      refine z_aload_n X dX0_trim_11 rfl ?_
      refine z_getI X dX0_trim_12 f_X0_15 rfl (by assumption) ?_
      refine z_iconst X dX0_trim_15 ?_
      refine z_isub X dX0_trim_16 ?_
      refine z_iald X (n) dX0_trim_17 (by omega) (by assumption) (by omega) (by omega) ?_
      refine z_if_ne X dX0_trim_18 34 (by decide) (by omega) (fun h18 => ?_) (fun h18 => ?_)
      · have h := K (n + 1) (by omega) (fun i h1 h2 => absurd h1 (by omega)) (fun _ => by simpa using h18)
        rw [same m (n + 1) e1] at h
        exact h
      · refine z_aload_n X dX0_trim_21 rfl ?_
        refine z_dup X dX0_trim_22 rfl ?_
        refine z_getI X dX0_trim_23 f_X0_15 rfl (by assumption) ?_
        refine z_iconst X dX0_trim_26 ?_
        refine z_isub X dX0_trim_27 ?_
        refine z_putI X dX0_trim_28 f_X0_15 rfl rfl (by assumption) ?_
        refine z_goto X dX0_trim_31 0 (by decide) ?_
        rw [e1]
        have h18' : m (q + 1) n = 0 := by simpa using h18
        refine ih (zms m q 1 ((n + 1 : Nat) - 1 : Int)) (by simp [zms]) (by omega) (fun i hi => by simpa [zms] using hl i (by omega)) (fun k hk hz ht => ?_)
        rw [zms_zms]
        refine K k (by omega) (fun i h1 h2 => ?_) (fun h => by simpa [zms] using ht h)
        by_cases hi : i = n
        · rw [hi]; exact h18'
        · simpa [zms] using hz i h1 (by omega)
theorem c_X0_trim (G : zG) {A : zA} {m : zM} {q N n : Nat} (hA : zbigA A q N) (hr : zraw m q N n) (hs : m q 2 = 0 ∨ m q 2 = 1) : zMet G k_X0_trim [vr q] A m (zpv A (fun m' => ∃ k : Nat, k ≤ n ∧ (∀ i, k ≤ i → i < n → m (q + 1) i = 0) ∧ (k ≠ 0 → m (q + 1) (k - 1) ≠ 0) ∧ m' = zms (zms m q 1 (k : Int)) q 2 (if k = 0 then 0 else m q 2))) := by
  obtain ⟨hA1, hA2, hA3, hN, hN2⟩ := id hA
  refine zMet.of RX0 rfl (by decide +kernel) (Nat.le_of_ble_eq_true rfl) [some (vr q)] rfl (fun E hG X hQ hNm => ?_)
  subst hG
  refine zl_trim X hA n m hr.1 hr.2.1 hr.2.2 (fun k hk hz ht => ?_)
  have e1 : zms m q 1 (k : Int) q 1 = k := zms_same _ _ _ _
  have e2 : zms m q 1 (k : Int) q 2 = m q 2 := zms_nk _ _ _ _ _ (by omega)
  have hkN : k ≤ N := by have := hr.2.1; omega
  refine z_aload_n X dX0_trim_34 rfl ?_
  refine z_aload_n X dX0_trim_35 rfl ?_
  refine z_getI X dX0_trim_36 f_X0_19 rfl (by assumption) ?_
  refine z_if_eq X dX0_trim_39 53 (by decide) (by omega) (fun h39 => ?_) (fun h39 => ?_)
  · refine z_iconst X dX0_trim_53 ?_
    refine z_putZ X dX0_trim_54 f_X0_19 (by first | exact Or.inl rfl | exact Or.inr rfl | omega) rfl rfl (by assumption) ?_
    refine z_return (st := []) X rfl hQ dX0_trim_57 ⟨rfl, rfl, ?_⟩
    refine ⟨k, hk, hz, ht, ?_⟩
    congr 1
    split <;> omega
  · refine z_aload_n X dX0_trim_42 rfl ?_
    refine z_getI X dX0_trim_43 f_X0_15 rfl (by assumption) ?_
    refine z_if_le X dX0_trim_46 53 (by decide) (by omega) (fun h46 => ?_) (fun h46 => ?_)
    · refine z_iconst X dX0_trim_53 ?_
      refine z_putZ X dX0_trim_54 f_X0_19 (by first | exact Or.inl rfl | exact Or.inr rfl | omega) rfl rfl (by assumption) ?_
      refine z_return (st := []) X rfl hQ dX0_trim_57 ⟨rfl, rfl, ?_⟩
      refine ⟨k, hk, hz, ht, ?_⟩
      congr 1
      split <;> omega
    · refine z_iconst X dX0_trim_49 ?_
      refine z_goto X dX0_trim_50 54 (by decide) ?_
      refine z_putZ X dX0_trim_54 f_X0_19 (by first | exact Or.inl rfl | exact Or.inr rfl | omega) rfl rfl (by assumption) ?_
      refine z_return (st := []) X rfl hQ dX0_trim_57 ⟨rfl, rfl, ?_⟩
      refine ⟨k, hk, hz, ht, ?_⟩
      congr 1
      split <;> omega

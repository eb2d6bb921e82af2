/-! Span, Grinder -/
def zfd (m : zM) (a j : Nat) (v : Int) : Prop := m a j = v
theorem zfd.k {m m' : zM} {a j q : Nat} {v : Int} (h : zfd m a j v) (hf : zfr m m' q) (hd : a ≠ q ∧ a ≠ q + 1) : zfd m' a j v := (hf a j hd.1 hd.2).trans h
theorem zfd.w {m : zM} {a j q k : Nat} {v x : Int} (h : zfd m a j v) (hd : a ≠ q ∨ j ≠ k) : zfd (zms m q k x) a j v := (zms_ne _ _ _ _ (by omega)).trans h
theorem zbi.k {m m' : zM} {x N q : Nat} {v : Int} (h : zbi m x N v) (hf : zfr m m' q) (hd : x ≠ q ∧ x ≠ q + 1 ∧ x + 1 ≠ q) : zbi m' x N v := h.fr (fun j => hf _ _ hd.1 hd.2.1) (fun j => hf _ _ hd.2.2 (by omega))
theorem zbi.w {m : zM} {x N a k : Nat} {v y : Int} (h : zbi m x N v) (hd : x ≠ a ∧ x + 1 ≠ a) : zbi (zms m a k y) x N v := h.fr (fun j => zms_nq _ _ _ _ _ hd.1) (fun j => zms_nq _ _ _ _ _ hd.2)
theorem zsumM.k {m m' : zM} {s q : Nat} {c : Nat → Nat → Int} {u v : Int} (h : zsumM m s c u v) (hf : zfr m m' q) (hd : q + 1 < s ∨ s + 3 < q) : zsumM m' s c u v := by
  refine ⟨fun w hw => ?_, (hf _ _ (by omega) (by omega)).trans h.2.1, (hf _ _ (by omega) (by omega)).trans h.2.2⟩
  obtain ⟨h1, h2, h3⟩ := h.1 w hw
  exact ⟨(hf _ _ (by omega) (by omega)).trans h1, (hf _ _ (by omega) (by omega)).trans h2, (hf _ _ (by omega) (by omega)).trans h3⟩
theorem zsumM.w {m : zM} {s a k : Nat} {c : Nat → Nat → Int} {u v y : Int} (h : zsumM m s c u v) (hd : a < s ∨ s + 3 < a) : zsumM (zms m a k y) s c u v := by
  refine ⟨fun w hw => ?_, (zms_nq _ _ _ _ _ (by omega)).trans h.2.1, (zms_nq _ _ _ _ _ (by omega)).trans h.2.2⟩
  obtain ⟨h1, h2, h3⟩ := h.1 w hw
  exact ⟨(zms_nq _ _ _ _ _ (by omega)).trans h1, (zms_nq _ _ _ _ _ (by omega)).trans h2, (zms_nq _ _ _ _ _ (by omega)).trans h3⟩
/-- outside of a span and of the grinder nothing is changed -/
def zout (m m' : zM) (d g : Nat) : Prop := ∀ a j, (a < d ∨ d + 9 ≤ a) → (a < g ∨ g + 9 ≤ a) → m' a j = m a j
theorem zout.k {m m1 m' : zM} {d g q : Nat} (h : zout m m1 d g) (hf : zfr m1 m' q) (hd : (d ≤ q ∧ q + 1 < d + 9) ∨ (g ≤ q ∧ q + 1 < g + 9)) : zout m m' d g := fun a j h1 h2 => (hf a j (by omega) (by omega)).trans (h a j h1 h2)
theorem zout.w {m m1 : zM} {d g a k : Nat} {y : Int} (h : zout m m1 d g) (hd : (d ≤ a ∧ a < d + 9) ∨ (g ≤ a ∧ a < g + 9)) : zout m (zms m1 a k y) d g := fun b j h1 h2 => (zms_nq _ _ _ _ _ (by omega)).trans (h b j h1 h2)
def zspanA (A : zA) (d : Nat) : Prop := A.1 d = some (.inl 5) ∧ (A.2.1 d 0 = some (d + 1) ∧ A.2.1 d 1 = some (d + 3) ∧ A.2.1 d 2 = some (d + 5) ∧ A.2.1 d 3 = some (d + 7)) ∧ zbigA A (d + 1) 85 ∧ zbigA A (d + 3) 85 ∧ zbigA A (d + 5) 85 ∧ zbigA A (d + 7) 170
def zgrA (A : zA) (g : Nat) : Prop := A.1 g = some (.inl 4) ∧ (A.2.1 g 0 = some (g + 1) ∧ A.2.1 g 1 = some (g + 3) ∧ A.2.1 g 2 = some (g + 5) ∧ A.2.1 g 3 = some (g + 7)) ∧ zbigA A (g + 1) 170 ∧ zbigA A (g + 3) 170 ∧ zbigA A (g + 5) 170 ∧ zbigA A (g + 7) 170
def zspn (m : zM) (d : Nat) (z : zq4) : Prop := zbi m (d + 1) 85 z.1 ∧ zbi m (d + 3) 85 z.2.1 ∧ zbi m (d + 5) 85 z.2.2.1 ∧ zbi m (d + 7) 170 z.2.2.2
theorem c_X5_terms (G : zG) {A : zA} {m : zM} {d : Nat} (hA : zspanA A d) : zMet G k_X5_terms [vr d] A m (zpi A (fun r m' => m = m' ∧ r = m d 7 - m d 6)) := by
  obtain ⟨hA1, hA2, hA3⟩ := hA
  refine zMet.of RX5 rfl (by decide +kernel) (Nat.le_of_ble_eq_true rfl) [some (vr d)] rfl (fun E hG X hQ hNm => ?_)
  subst hG
  refine z_aload_n X dX5_terms_0 rfl ?_
  refine z_getI X dX5_terms_1 f_X5_40 rfl (by assumption) ?_
  refine z_aload_n X dX5_terms_4 rfl ?_
  refine z_getI X dX5_terms_5 f_X5_37 rfl (by assumption) ?_
  refine z_isub X dX5_terms_8 ?_
  refine z_ireturn (st := []) X rfl hQ dX5_terms_9 ⟨rfl, _, rfl, ?_⟩
  exact ⟨rfl, rfl⟩
theorem c_X5_open (G : zG) {A : zA} {m : zM} {d : Nat} {s k : Int} (hA : zspanA A d) : zMet G k_X5_open [vr d, vi s, vi k] A m (zpv A (fun m' => zspn m' d zq0 ∧ (m' d 4 = 1 ∧ m' d 5 = s ∧ m' d 6 = k ∧ m' d 7 = k) ∧ ∀ a j, (a < d ∨ d + 9 ≤ a) → m' a j = m a j)) := by
  obtain ⟨hA1, ⟨hA2, hA3, hA4, hA5⟩, hb1, hb2, hb3, hb4⟩ := hA
  refine zMet.of RX5 rfl (by decide +kernel) (Nat.le_of_ble_eq_true rfl) [some (vr d), some (vi s), some (vi k)] rfl (fun E hG X hQ hNm => ?_)
  subst hG
  refine z_aload_n X dX5_open_0 rfl ?_
  refine z_iconst X dX5_open_1 ?_
  refine z_putZ X dX5_open_2 f_X5_29 (by first | exact Or.inl rfl | exact Or.inr rfl | omega) rfl rfl (by assumption) ?_
  refine z_aload_n X dX5_open_5 rfl ?_
  refine z_iload_n X dX5_open_6 rfl ?_
  refine z_putI X dX5_open_7 f_X5_33 rfl rfl (by assumption) ?_
  refine z_aload_n X dX5_open_10 rfl ?_
  refine z_iload_n X dX5_open_11 rfl ?_
  refine z_putI X dX5_open_12 f_X5_37 rfl rfl (by assumption) ?_
  refine z_aload_n X dX5_open_15 rfl ?_
  refine z_iload_n X dX5_open_16 rfl ?_
  refine z_putI X dX5_open_17 f_X5_40 rfl rfl (by assumption) ?_
  refine z_aload_n X dX5_open_20 rfl ?_
  refine z_getR X dX5_open_21 f_X5_14 rfl (by assumption) (by assumption) ?_
  refine z_iconst X dX5_open_24 ?_
  have f4 : zfd (zms (zms (zms (zms m d 4 1) d 5 s) d 6 k) d 7 k) d 4 1 := by simp [zfd, zms]
  have f5 : zfd (zms (zms (zms (zms m d 4 1) d 5 s) d 6 k) d 7 k) d 5 s := by simp [zfd, zms]
  have f6 : zfd (zms (zms (zms (zms m d 4 1) d 5 s) d 6 k) d 7 k) d 6 k := by simp [zfd, zms]
  have f7 : zfd (zms (zms (zms (zms m d 4 1) d 5 s) d 6 k) d 7 k) d 7 k := by simp [zfd, zms]
  have hF : zout m (zms (zms (zms (zms m d 4 1) d 5 s) d 6 k) d 7 k) d d := fun a j h1 h2 => by simp [zms, show a ≠ d by omega]
  refine z_callVv X (As := [_]) dX5_open_25 m_X0_put i_X0_put l_X5_43 (c_X0_put (zg E) hb1 (by omega)) (by first | assumption | exact zbigA.o (by assumption)) rfl rfl rfl (Nat.le_of_ble_eq_true rfl) ⟨Nat.le_of_ble_eq_true rfl, Nat.le_of_ble_eq_true rfl⟩ ⟨Nat.le_of_ble_eq_true rfl, Nat.le_of_ble_eq_true rfl⟩ ⟨rfl, rfl⟩ (fun m1 hm => ?_)
  obtain ⟨hp, hf⟩ := hm
  have f4 := f4.k hf (by omega)
  have f5 := f5.k hf (by omega)
  have f6 := f6.k hf (by omega)
  have f7 := f7.k hf (by omega)
  have hF := hF.k hf (by omega)
  refine z_aload_n X dX5_open_28 rfl ?_
  refine z_getR X dX5_open_29 f_X5_20 rfl (by assumption) (by assumption) ?_
  refine z_iconst X dX5_open_32 ?_
  refine z_callVv X (As := [_]) dX5_open_33 m_X0_put i_X0_put l_X5_43 (c_X0_put (zg E) hb2 (by omega)) (by first | assumption | exact zbigA.o (by assumption)) rfl rfl rfl (Nat.le_of_ble_eq_true rfl) ⟨Nat.le_of_ble_eq_true rfl, Nat.le_of_ble_eq_true rfl⟩ ⟨Nat.le_of_ble_eq_true rfl, Nat.le_of_ble_eq_true rfl⟩ ⟨rfl, rfl⟩ (fun m2 hm => ?_)
  obtain ⟨hq, hf⟩ := hm
  have f4 := f4.k hf (by omega)
  have f5 := f5.k hf (by omega)
  have f6 := f6.k hf (by omega)
  have f7 := f7.k hf (by omega)
  have hF := hF.k hf (by omega)
  have hp := hp.k hf (by omega)
  refine z_aload_n X dX5_open_36 rfl ?_
  refine z_getR X dX5_open_37 f_X5_23 rfl (by assumption) (by assumption) ?_
  refine z_iconst X dX5_open_40 ?_
  refine z_callVv X (As := [_]) dX5_open_41 m_X0_put i_X0_put l_X5_43 (c_X0_put (zg E) hb3 (by omega)) (by first | assumption | exact zbigA.o (by assumption)) rfl rfl rfl (Nat.le_of_ble_eq_true rfl) ⟨Nat.le_of_ble_eq_true rfl, Nat.le_of_ble_eq_true rfl⟩ ⟨Nat.le_of_ble_eq_true rfl, Nat.le_of_ble_eq_true rfl⟩ ⟨rfl, rfl⟩ (fun m3 hm => ?_)
  obtain ⟨hb, hf⟩ := hm
  have f4 := f4.k hf (by omega)
  have f5 := f5.k hf (by omega)
  have f6 := f6.k hf (by omega)
  have f7 := f7.k hf (by omega)
  have hF := hF.k hf (by omega)
  have hp := hp.k hf (by omega)
  have hq := hq.k hf (by omega)
  refine z_aload_n X dX5_open_44 rfl ?_
  refine z_getR X dX5_open_45 f_X5_26 rfl (by assumption) (by assumption) ?_
  refine z_iconst X dX5_open_48 ?_
  refine z_callVv X (As := [_]) dX5_open_49 m_X0_put i_X0_put l_X5_43 (c_X0_put (zg E) hb4 (by omega)) (by first | assumption | exact zbigA.o (by assumption)) rfl rfl rfl (Nat.le_of_ble_eq_true rfl) ⟨Nat.le_of_ble_eq_true rfl, Nat.le_of_ble_eq_true rfl⟩ ⟨Nat.le_of_ble_eq_true rfl, Nat.le_of_ble_eq_true rfl⟩ ⟨rfl, rfl⟩ (fun m4 hm => ?_)
  obtain ⟨ht, hf⟩ := hm
  have f4 := f4.k hf (by omega)
  have f5 := f5.k hf (by omega)
  have f6 := f6.k hf (by omega)
  have f7 := f7.k hf (by omega)
  have hF := hF.k hf (by omega)
  have hp := hp.k hf (by omega)
  have hq := hq.k hf (by omega)
  have hb := hb.k hf (by omega)
  refine z_return (st := []) X rfl hQ dX5_open_52 ⟨rfl, rfl, ?_⟩
  exact ⟨⟨hp, hq, hb, ht⟩, ⟨f4, f5, f6, f7⟩, fun a j h => hF a j h h⟩
theorem c_X5_number (G : zG) {A : zA} {m : zM} {d : Nat} {w : Int} (hA : zspanA A d) (hw : -2147483648 ≤ w ∧ w < 2147483648) : zMet G k_X5_number [vr d, vi w] A m (zpr A (fun x m' => m = m' ∧ x = if 0 ≤ w ∧ w < 4 then some (d + 1 + 2 * w.toNat) else none)) := by
  obtain ⟨hA1, ⟨hA2, hA3, hA4, hA5⟩, hb1, hb2, hb3, hb4⟩ := hA
  refine zMet.of RX5 rfl (by decide +kernel) (Nat.le_of_ble_eq_true rfl) [some (vr d), some (vi w)] rfl (fun E hG X hQ hNm => ?_)
  subst hG
  refine z_iload_n X dX5_number_0 rfl ?_
  by_cases h0 : w < 0 ∨ 3 < w
  · refine z_tableOut X dX5_number_1 52 (by omega) h0 (by decide) ?_
    refine z_null X dX5_number_52 ?_
    refine z_areturn (st := []) X rfl hQ dX5_number_53 (Or.inl rfl) ⟨rfl, none, rfl, ?_⟩
    exact ⟨rfl, by rw [if_neg (by omega)]⟩
  · rcases (show w = 0 ∨ w = 1 ∨ w = 2 ∨ w = 3 by omega) with rfl | rfl | rfl | rfl
    · refine z_tableIn X dX5_number_1 32 (by omega) (by omega) (by omega) (off := 31) (by decide) (by decide) ?_
      refine z_aload_n X dX5_number_32 rfl ?_
      refine z_getR X dX5_number_33 f_X5_14 rfl (by assumption) (by assumption) ?_
      refine z_areturn (st := []) X rfl hQ dX5_number_36 (Or.inr ⟨_, rfl⟩) ⟨rfl, some _, rfl, ?_⟩
      exact ⟨rfl, rfl⟩
    · refine z_tableIn X dX5_number_1 37 (by omega) (by omega) (by omega) (off := 36) (by decide) (by decide) ?_
      refine z_aload_n X dX5_number_37 rfl ?_
      refine z_getR X dX5_number_38 f_X5_20 rfl (by assumption) (by assumption) ?_
      refine z_areturn (st := []) X rfl hQ dX5_number_41 (Or.inr ⟨_, rfl⟩) ⟨rfl, some _, rfl, ?_⟩
      exact ⟨rfl, rfl⟩
    · refine z_tableIn X dX5_number_1 42 (by omega) (by omega) (by omega) (off := 41) (by decide) (by decide) ?_
      refine z_aload_n X dX5_number_42 rfl ?_
      refine z_getR X dX5_number_43 f_X5_23 rfl (by assumption) (by assumption) ?_
      refine z_areturn (st := []) X rfl hQ dX5_number_46 (Or.inr ⟨_, rfl⟩) ⟨rfl, some _, rfl, ?_⟩
      exact ⟨rfl, rfl⟩
    · refine z_tableIn X dX5_number_1 47 (by omega) (by omega) (by omega) (off := 46) (by decide) (by decide) ?_
      refine z_aload_n X dX5_number_47 rfl ?_
      refine z_getR X dX5_number_48 f_X5_26 rfl (by assumption) (by assumption) ?_
      refine z_areturn (st := []) X rfl hQ dX5_number_51 (Or.inr ⟨_, rfl⟩) ⟨rfl, some _, rfl, ?_⟩
      exact ⟨rfl, rfl⟩
theorem c_X5_hasNumbersOf (G : zG) {A : zA} {m : zM} {d e : Nat} {x y : zq4} (hA : zspanA A d) (hB : zspanA A e) (hx : zspn m d x) (hy : zspn m e y) : zMet G k_X5_hasNumbersOf [vr d, vr e] A m (zpi A (fun r m' => m = m' ∧ ((r = 1 ∧ x = y) ∨ (r = 0 ∧ x ≠ y)))) := by
  obtain ⟨hA1, ⟨hA2, hA3, hA4, hA5⟩, hb1, hb2, hb3, hb4⟩ := hA
  obtain ⟨hB1, ⟨hB2, hB3, hB4, hB5⟩, hc1, hc2, hc3, hc4⟩ := hB
  obtain ⟨x1, x2, x3, x4⟩ := x
  obtain ⟨y1, y2, y3, y4⟩ := y
  obtain ⟨p1, p2, p3, p4⟩ := hx
  obtain ⟨q1, q2, q3, q4⟩ := hy
  have key : ((x1, x2, x3, x4) : zq4) = (y1, y2, y3, y4) ↔ x1 = y1 ∧ x2 = y2 ∧ x3 = y3 ∧ x4 = y4 := by simp
  rw [Ne, key]
  refine zMet.of RX5 rfl (by decide +kernel) (Nat.le_of_ble_eq_true rfl) [some (vr d), some (vr e)] rfl (fun E hG X hQ hNm => ?_)
  subst hG
  refine z_aload_n X dX5_hasNumbersOf_0 rfl ?_
  refine z_getR X dX5_hasNumbersOf_1 f_X5_14 rfl (by assumption) (by assumption) ?_
  refine z_aload_n X dX5_hasNumbersOf_4 rfl ?_
  refine z_getR X dX5_hasNumbersOf_5 f_X5_14 rfl (by assumption) (by assumption) ?_
  refine z_callVi X (As := [_]) dX5_hasNumbersOf_8 m_X0_isLike i_X0_isLike l_X5_46 (c_X0_isLike (zg E) hb1 hc1 p1 q1) (by first | assumption | exact zbigA.o (by assumption)) rfl rfl rfl (Nat.le_of_ble_eq_true rfl) ⟨Nat.le_of_ble_eq_true rfl, Nat.le_of_ble_eq_true rfl⟩ ⟨Nat.le_of_ble_eq_true rfl, Nat.le_of_ble_eq_true rfl⟩ ⟨rfl, rfl⟩ (fun r m1 hm => ?_)
  obtain ⟨rfl, hr1⟩ := hm
  refine z_if_eq X dX5_hasNumbersOf_11 60 (by decide) (by omega) (fun h11 => ?_) (fun h11 => ?_)
  · refine z_iconst X dX5_hasNumbersOf_60 ?_
    refine z_zreturn (st := []) X rfl hQ dX5_hasNumbersOf_61 (by first | exact Or.inl rfl | exact Or.inr rfl | omega) ⟨rfl, _, rfl, ?_⟩
    exact ⟨rfl, Or.inr ⟨rfl, fun h => by have := h.1; have e1 := hr1; simp only at e1; omega⟩⟩
  · refine z_aload_n X dX5_hasNumbersOf_14 rfl ?_
    refine z_getR X dX5_hasNumbersOf_15 f_X5_20 rfl (by assumption) (by assumption) ?_
    refine z_aload_n X dX5_hasNumbersOf_18 rfl ?_
    refine z_getR X dX5_hasNumbersOf_19 f_X5_20 rfl (by assumption) (by assumption) ?_
    refine z_callVi X (As := [_]) dX5_hasNumbersOf_22 m_X0_isLike i_X0_isLike l_X5_46 (c_X0_isLike (zg E) hb2 hc2 p2 q2) (by first | assumption | exact zbigA.o (by assumption)) rfl rfl rfl (Nat.le_of_ble_eq_true rfl) ⟨Nat.le_of_ble_eq_true rfl, Nat.le_of_ble_eq_true rfl⟩ ⟨Nat.le_of_ble_eq_true rfl, Nat.le_of_ble_eq_true rfl⟩ ⟨rfl, rfl⟩ (fun r m1 hm => ?_)
    obtain ⟨rfl, hr2⟩ := hm
    refine z_if_eq X dX5_hasNumbersOf_25 60 (by decide) (by omega) (fun h25 => ?_) (fun h25 => ?_)
    · refine z_iconst X dX5_hasNumbersOf_60 ?_
      refine z_zreturn (st := []) X rfl hQ dX5_hasNumbersOf_61 (by first | exact Or.inl rfl | exact Or.inr rfl | omega) ⟨rfl, _, rfl, ?_⟩
      exact ⟨rfl, Or.inr ⟨rfl, fun h => by have := h.2.1; have e1 := hr2; simp only at e1; omega⟩⟩
    · refine z_aload_n X dX5_hasNumbersOf_28 rfl ?_
      refine z_getR X dX5_hasNumbersOf_29 f_X5_23 rfl (by assumption) (by assumption) ?_
      refine z_aload_n X dX5_hasNumbersOf_32 rfl ?_
      refine z_getR X dX5_hasNumbersOf_33 f_X5_23 rfl (by assumption) (by assumption) ?_
      refine z_callVi X (As := [_]) dX5_hasNumbersOf_36 m_X0_isLike i_X0_isLike l_X5_46 (c_X0_isLike (zg E) hb3 hc3 p3 q3) (by first | assumption | exact zbigA.o (by assumption)) rfl rfl rfl (Nat.le_of_ble_eq_true rfl) ⟨Nat.le_of_ble_eq_true rfl, Nat.le_of_ble_eq_true rfl⟩ ⟨Nat.le_of_ble_eq_true rfl, Nat.le_of_ble_eq_true rfl⟩ ⟨rfl, rfl⟩ (fun r m1 hm => ?_)
      obtain ⟨rfl, hr3⟩ := hm
      refine z_if_eq X dX5_hasNumbersOf_39 60 (by decide) (by omega) (fun h39 => ?_) (fun h39 => ?_)
      · refine z_iconst X dX5_hasNumbersOf_60 ?_
        refine z_zreturn (st := []) X rfl hQ dX5_hasNumbersOf_61 (by first | exact Or.inl rfl | exact Or.inr rfl | omega) ⟨rfl, _, rfl, ?_⟩
        exact ⟨rfl, Or.inr ⟨rfl, fun h => by have := h.2.2.1; have e1 := hr3; simp only at e1; omega⟩⟩
      · refine z_aload_n X dX5_hasNumbersOf_42 rfl ?_
        refine z_getR X dX5_hasNumbersOf_43 f_X5_26 rfl (by assumption) (by assumption) ?_
        refine z_aload_n X dX5_hasNumbersOf_46 rfl ?_
        refine z_getR X dX5_hasNumbersOf_47 f_X5_26 rfl (by assumption) (by assumption) ?_
        refine z_callVi X (As := [_]) dX5_hasNumbersOf_50 m_X0_isLike i_X0_isLike l_X5_46 (c_X0_isLike (zg E) hb4 hc4 p4 q4) (by first | assumption | exact zbigA.o (by assumption)) rfl rfl rfl (Nat.le_of_ble_eq_true rfl) ⟨Nat.le_of_ble_eq_true rfl, Nat.le_of_ble_eq_true rfl⟩ ⟨Nat.le_of_ble_eq_true rfl, Nat.le_of_ble_eq_true rfl⟩ ⟨rfl, rfl⟩ (fun r m1 hm => ?_)
        obtain ⟨rfl, hr4⟩ := hm
        refine z_if_eq X dX5_hasNumbersOf_53 60 (by decide) (by omega) (fun h53 => ?_) (fun h53 => ?_)
        · refine z_iconst X dX5_hasNumbersOf_60 ?_
          refine z_zreturn (st := []) X rfl hQ dX5_hasNumbersOf_61 (by first | exact Or.inl rfl | exact Or.inr rfl | omega) ⟨rfl, _, rfl, ?_⟩
          exact ⟨rfl, Or.inr ⟨rfl, fun h => by have := h.2.2.2; have e1 := hr4; simp only at e1; omega⟩⟩
        · refine z_iconst X dX5_hasNumbersOf_56 ?_
          refine z_goto X dX5_hasNumbersOf_57 61 (by decide) ?_
          refine z_zreturn (st := []) X rfl hQ dX5_hasNumbersOf_61 (by first | exact Or.inl rfl | exact Or.inr rfl | omega) ⟨rfl, _, rfl, ?_⟩
          simp only at hr1 hr2 hr3 hr4
          exact ⟨rfl, Or.inl ⟨rfl, by omega, by omega, by omega, by omega⟩⟩

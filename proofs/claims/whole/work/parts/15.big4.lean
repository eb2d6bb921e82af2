/-! Big: plus, product, isLike -/
theorem zbi.trim {m : zM} {q N n k : Nat} {v : Int} (hr : zraw m q N n) (hk : k ≤ n) (hz : ∀ i, k ≤ i → i < n → m (q + 1) i = 0) (ht : k ≠ 0 → m (q + 1) (k - 1) ≠ 0) (hv : (v.natAbs : Int) = zsum 1073741824 (m (q + 1)) n) (hs : (m q 2 = 0 ∧ 0 ≤ v) ∨ (m q 2 = 1 ∧ v ≤ 0)) : zbi (zms (zms m q 1 (k : Int)) q 2 (if k = 0 then 0 else m q 2)) q N v := by
  have e1 : zsum 1073741824 (m (q + 1)) n = zsum 1073741824 (m (q + 1)) k := by
    obtain ⟨d, rfl⟩ := Nat.exists_eq_add_of_le hk
    exact zsum_ext d hz
  have e2 : ∀ j, zms (zms m q 1 (k : Int)) q 2 (if k = 0 then 0 else m q 2) (q + 1) j = m (q + 1) j := fun j => by simp [zms]
  have e3 : zsum 1073741824 (zms (zms m q 1 (k : Int)) q 2 (if k = 0 then 0 else m q 2) (q + 1)) k = zsum 1073741824 (m (q + 1)) k := zsum_congr (fun j _ => e2 j)
  refine zbi.mk (n := k) ⟨by simp [zms], by have := hr.2.1; omega, fun i hi => by rw [e2]; exact hr.2.2 i (by omega)⟩ (fun h => by rw [e2]; exact ht h) (by rw [e3, hv, e1]) ?_
  rw [zms_same]
  by_cases h0 : k = 0
  · subst h0
    rw [e1, zsum_0] at hv
    exact Or.inl ⟨rfl, by omega⟩
  · rw [if_neg h0]
    obtain ⟨d, rfl⟩ : ∃ d, k = d + 1 := ⟨k - 1, by omega⟩
    have g1 := zsum_top (b := 1073741824) (n := d) (by omega) (fun i hi => (hr.2.2 i (by omega)).1) (ht h0)
    have g2 := zpow_pos (b := 1073741824) (by omega) d
    omega
theorem zlen_le {f g : Nat → Int} {n k : Nat} (hf : ∀ i, i < n → 0 ≤ f i ∧ f i < 1073741824) (hg : ∀ i, i < k → 0 ≤ g i ∧ g i < 1073741824) (ht : k ≠ 0 → g (k - 1) ≠ 0) (h : zsum 1073741824 g k ≤ zsum 1073741824 f n) : k ≤ n := by
  rcases Nat.lt_or_ge n k with hk | hk
  · have := zsum_len (b := 1073741824) (by omega) hf hg hk (ht (by omega))
    omega
  · exact hk
theorem c_X0_plus (G : zG) {A : zA} {m : zM} {q N x M : Nat} {v w : Int} (hA : zbigA A q N) (hB : zbigA A x M) (hne : x ≠ q) (hb : zbi m q N v) (hc : zbi m x M w) (hw : (w.natAbs : Int) < 1073741824 ^ N) (hvw : ((v + w).natAbs : Int) < 1073741824 ^ N) : zMet G k_X0_plus [vr q, vr x] A m (zpv A (fun m' => zbi m' q N (v + w) ∧ zfr m m' q)) := by
  obtain ⟨hx1, hx2⟩ := zbigA.ap hA hB hne
  obtain ⟨hA1, hA2, hA3, hN, hN2⟩ := id hA
  obtain ⟨hB1, hB2, hB3, hM, hM2⟩ := id hB
  obtain ⟨n, hq, tq, vq, sq⟩ := hb.abs
  obtain ⟨k, hx, tx, vx, sx⟩ := hc.abs
  have q1 := hq.1
  have x1 := hx.1
  have hkN : k ≤ N := zlen hx.2.2 tx (by rw [← vx]; exact hw)
  have hnN := hq.2.1
  refine zMet.of RX0 rfl (by decide +kernel) (Nat.le_of_ble_eq_true rfl) [some (vr q), some (vr x)] rfl (fun E hG X hQ hNm => ?_)
  subst hG
  refine z_aload_n X dX0_plus_0 rfl ?_
  refine z_getI X dX0_plus_1 f_X0_15 rfl (by assumption) ?_
  refine z_if_ne X dX0_plus_4 15 (by decide) (by omega) (fun h4 => ?_) (fun h4 => ?_)
  · refine z_aload_n X dX0_plus_15 rfl ?_
    refine z_getI X dX0_plus_16 f_X0_19 rfl (by assumption) ?_
    refine z_aload_n X dX0_plus_19 rfl ?_
    refine z_getI X dX0_plus_20 f_X0_19 rfl (by assumption) ?_
    refine z_icmp_ne X dX0_plus_23 34 (by decide) (by omega) (by omega) (fun h23 => ?_) (fun h23 => ?_)
    · refine z_aload_n X dX0_plus_34 rfl ?_
      refine z_aload_n X dX0_plus_35 rfl ?_
      refine z_callVi X (As := [_]) dX0_plus_36 m_X0_compareSizes i_X0_compareSizes l_X0_52 (c_X0_compareSizes (zg E) hA hB hq hx tq tx) (by assumption) rfl rfl rfl (Nat.le_of_ble_eq_true rfl) ⟨Nat.le_of_ble_eq_true rfl, Nat.le_of_ble_eq_true rfl⟩ ⟨Nat.le_of_ble_eq_true rfl, Nat.le_of_ble_eq_true rfl⟩ ⟨rfl, rfl⟩ (fun r m1 hm => ?_)
      obtain ⟨rfl, hm⟩ := hm
      refine z_if_lt X dX0_plus_39 51 (by decide) (by omega) (fun h39 => ?_) (fun h39 => ?_)
      · refine z_aload_n X dX0_plus_51 rfl ?_
        refine z_aload_n X dX0_plus_52 rfl ?_
        refine z_getI X dX0_plus_53 f_X0_19 rfl (by assumption) ?_
        refine z_putZ X dX0_plus_56 f_X0_19 (by first | exact Or.inl rfl | exact Or.inr rfl | omega) rfl rfl (by assumption) ?_
        have e9 : zraw (zms m q 2 (m x 2)) q N n := ⟨by simp [zms, q1], hnN, fun i hi => by simpa [zms] using hq.2.2 i hi⟩
        have e10 : zraw (zms m q 2 (m x 2)) x M k := ⟨by simp [zms, x1], hx.2.1, fun i hi => by rw [zms_nq _ _ _ _ _ (by omega)]; exact hx.2.2 i hi⟩
        have e11 : zsum 1073741824 (zms m q 2 (m x 2) (q + 1)) n = zsum 1073741824 (m (q + 1)) n := zsum_congr (fun j _ => by simp [zms])
        have e12 : zsum 1073741824 (zms m q 2 (m x 2) (x + 1)) k = zsum 1073741824 (m (x + 1)) k := zsum_congr (fun j _ => zms_nq _ _ _ _ _ (by omega))
        refine z_aload_n X dX0_plus_59 rfl ?_
        refine z_aload_n X dX0_plus_60 rfl ?_
        refine z_aload_n X dX0_plus_61 rfl ?_
        refine z_callVv X (As := [_, _]) dX0_plus_62 m_X0_putDifference i_X0_putDifference l_X0_56 (c_X0_putDifference (zg E) hA hB hA e10 e9 hkN (zlen_le hx.2.2 hq.2.2 tq (by omega)) (by omega)) (by assumption) rfl rfl rfl (Nat.le_of_ble_eq_true rfl) ⟨Nat.le_of_ble_eq_true rfl, Nat.le_of_ble_eq_true rfl⟩ ⟨Nat.le_of_ble_eq_true rfl, Nat.le_of_ble_eq_true rfl⟩ ⟨rfl, rfl⟩ (fun m1 hm2 => ?_)
        obtain ⟨hr', hv', hs', hf'⟩ := hm2
        rw [e11, e12] at hv'
        have hf' := (show zfr m (zms m q 2 (m x 2)) q from fun a j ha hb => zms_nq _ _ _ _ _ ha).trans hf'
        rw [zms_same] at hs'
        have hv2 : ((v + w).natAbs : Int) = zsum 1073741824 (m1 (q + 1)) k := by omega
        have hs2 : (m1 q 2 = 0 ∧ 0 ≤ v + w) ∨ (m1 q 2 = 1 ∧ v + w ≤ 0) := by omega
        refine z_aload_n X dX0_plus_65 rfl ?_
        refine z_callVv X (As := []) dX0_plus_66 m_X0_trim i_X0_trim l_X0_60 (c_X0_trim (zg E) hA hr' (by omega)) (by assumption) rfl rfl rfl (Nat.le_of_ble_eq_true rfl) ⟨Nat.le_of_ble_eq_true rfl, Nat.le_of_ble_eq_true rfl⟩ ⟨Nat.le_of_ble_eq_true rfl, Nat.le_of_ble_eq_true rfl⟩ ⟨rfl, rfl⟩ (fun m2 hm3 => ?_)
        refine z_return (st := []) X rfl hQ dX0_plus_69 ⟨rfl, rfl, ?_⟩
        obtain ⟨k3, g1, g2, g3, rfl⟩ := hm3
        exact ⟨zbi.trim hr' g1 g2 g3 hv2 hs2, fun a j ha hb => by rw [zms_nq _ _ _ _ _ ha, zms_nq _ _ _ _ _ ha]; exact hf' a j ha hb⟩
      · refine z_aload_n X dX0_plus_42 rfl ?_
        refine z_aload_n X dX0_plus_43 rfl ?_
        refine z_aload_n X dX0_plus_44 rfl ?_
        refine z_callVv X (As := [_, _]) dX0_plus_45 m_X0_putDifference i_X0_putDifference l_X0_56 (c_X0_putDifference (zg E) hA hA hB hq hx hnN (zlen_le hq.2.2 hx.2.2 tx (by omega)) (by omega)) (by assumption) rfl rfl rfl (Nat.le_of_ble_eq_true rfl) ⟨Nat.le_of_ble_eq_true rfl, Nat.le_of_ble_eq_true rfl⟩ ⟨Nat.le_of_ble_eq_true rfl, Nat.le_of_ble_eq_true rfl⟩ ⟨rfl, rfl⟩ (fun m1 hm2 => ?_)
        refine z_goto X dX0_plus_48 65 (by decide) ?_
        obtain ⟨hr', hv', hs', hf'⟩ := hm2
        have hv2 : ((v + w).natAbs : Int) = zsum 1073741824 (m1 (q + 1)) n := by omega
        have hs2 : (m1 q 2 = 0 ∧ 0 ≤ v + w) ∨ (m1 q 2 = 1 ∧ v + w ≤ 0) := by omega
        refine z_aload_n X dX0_plus_65 rfl ?_
        refine z_callVv X (As := []) dX0_plus_66 m_X0_trim i_X0_trim l_X0_60 (c_X0_trim (zg E) hA hr' (by omega)) (by assumption) rfl rfl rfl (Nat.le_of_ble_eq_true rfl) ⟨Nat.le_of_ble_eq_true rfl, Nat.le_of_ble_eq_true rfl⟩ ⟨Nat.le_of_ble_eq_true rfl, Nat.le_of_ble_eq_true rfl⟩ ⟨rfl, rfl⟩ (fun m2 hm3 => ?_)
        refine z_return (st := []) X rfl hQ dX0_plus_69 ⟨rfl, rfl, ?_⟩
        obtain ⟨k3, g1, g2, g3, rfl⟩ := hm3
        exact ⟨zbi.trim hr' g1 g2 g3 hv2 hs2, fun a j ha hb => by rw [zms_nq _ _ _ _ _ ha, zms_nq _ _ _ _ _ ha]; exact hf' a j ha hb⟩
    · refine z_aload_n X dX0_plus_26 rfl ?_
      refine z_aload_n X dX0_plus_27 rfl ?_
      refine z_callVv X (As := [_]) dX0_plus_28 m_X0_addSize i_X0_addSize l_X0_49 (c_X0_addSize (zg E) hA hB hne hq hx hkN (by omega)) (by assumption) rfl rfl rfl (Nat.le_of_ble_eq_true rfl) ⟨Nat.le_of_ble_eq_true rfl, Nat.le_of_ble_eq_true rfl⟩ ⟨Nat.le_of_ble_eq_true rfl, Nat.le_of_ble_eq_true rfl⟩ ⟨rfl, rfl⟩ (fun m1 hm => ?_)
      refine z_goto X dX0_plus_31 65 (by decide) ?_
      obtain ⟨⟨n', hr', hv'⟩, hs', hf'⟩ := hm
      have hv2 : ((v + w).natAbs : Int) = zsum 1073741824 (m1 (q + 1)) n' := by omega
      have hs2 : (m1 q 2 = 0 ∧ 0 ≤ v + w) ∨ (m1 q 2 = 1 ∧ v + w ≤ 0) := by omega
      refine z_aload_n X dX0_plus_65 rfl ?_
      refine z_callVv X (As := []) dX0_plus_66 m_X0_trim i_X0_trim l_X0_60 (c_X0_trim (zg E) hA hr' (by omega)) (by assumption) rfl rfl rfl (Nat.le_of_ble_eq_true rfl) ⟨Nat.le_of_ble_eq_true rfl, Nat.le_of_ble_eq_true rfl⟩ ⟨Nat.le_of_ble_eq_true rfl, Nat.le_of_ble_eq_true rfl⟩ ⟨rfl, rfl⟩ (fun m2 hm3 => ?_)
      refine z_return (st := []) X rfl hQ dX0_plus_69 ⟨rfl, rfl, ?_⟩
      obtain ⟨k3, g1, g2, g3, rfl⟩ := hm3
      exact ⟨zbi.trim hr' g1 g2 g3 hv2 hs2, fun a j ha hb => by rw [zms_nq _ _ _ _ _ ha, zms_nq _ _ _ _ _ ha]; exact hf' a j ha hb⟩
  · refine z_aload_n X dX0_plus_7 rfl ?_
    refine z_aload_n X dX0_plus_8 rfl ?_
    refine z_callVv X (As := [_]) dX0_plus_9 m_X0_copy i_X0_copy l_X0_45 (c_X0_copy (zg E) hA hB hne hc hw) (by assumption) rfl rfl rfl (Nat.le_of_ble_eq_true rfl) ⟨Nat.le_of_ble_eq_true rfl, Nat.le_of_ble_eq_true rfl⟩ ⟨Nat.le_of_ble_eq_true rfl, Nat.le_of_ble_eq_true rfl⟩ ⟨rfl, rfl⟩ (fun m1 hm => ?_)
    refine z_goto X dX0_plus_12 65 (by decide) ?_
    obtain ⟨hm, hf'⟩ := hm
    obtain ⟨n', hr', -, hv', hs'⟩ := hm.abs
    have hn0 : n = 0 := by omega
    have hv0 : v = 0 := by rw [hn0, zsum_0] at vq; omega
    have hv2 : ((v + w).natAbs : Int) = zsum 1073741824 (m1 (q + 1)) n' := by rw [← hv', hv0, Int.zero_add]
    have hs2 : (m1 q 2 = 0 ∧ 0 ≤ v + w) ∨ (m1 q 2 = 1 ∧ v + w ≤ 0) := by omega
    refine z_aload_n X dX0_plus_65 rfl ?_
    refine z_callVv X (As := []) dX0_plus_66 m_X0_trim i_X0_trim l_X0_60 (c_X0_trim (zg E) hA hr' (by omega)) (by assumption) rfl rfl rfl (Nat.le_of_ble_eq_true rfl) ⟨Nat.le_of_ble_eq_true rfl, Nat.le_of_ble_eq_true rfl⟩ ⟨Nat.le_of_ble_eq_true rfl, Nat.le_of_ble_eq_true rfl⟩ ⟨rfl, rfl⟩ (fun m2 hm3 => ?_)
    refine z_return (st := []) X rfl hQ dX0_plus_69 ⟨rfl, rfl, ?_⟩
    obtain ⟨k3, g1, g2, g3, rfl⟩ := hm3
    exact ⟨zbi.trim hr' g1 g2 g3 hv2 hs2, fun a j ha hb => by rw [zms_nq _ _ _ _ _ ha, zms_nq _ _ _ _ _ ha]; exact hf' a j ha hb⟩
theorem c_X0_isLike (G : zG) {A : zA} {m : zM} {q N x M : Nat} {v w : Int} (hA : zbigA A q N) (hB : zbigA A x M) (hb : zbi m q N v) (hc : zbi m x M w) : zMet G k_X0_isLike [vr q, vr x] A m (zpi A (fun r m' => m = m' ∧ ((r = 1 ∧ v = w) ∨ (r = 0 ∧ v ≠ w)))) := by
  obtain ⟨hA1, hA2, hA3, hN, hN2⟩ := id hA
  obtain ⟨hB1, hB2, hB3, hM, hM2⟩ := id hB
  obtain ⟨n, hq, tq, vq, sq⟩ := hb.abs
  obtain ⟨k, hx, tx, vx, sx⟩ := hc.abs
  refine zMet.of RX0 rfl (by decide +kernel) (Nat.le_of_ble_eq_true rfl) [some (vr q), some (vr x)] rfl (fun E hG X hQ hNm => ?_)
  subst hG
  refine z_aload_n X dX0_isLike_0 rfl ?_
  refine z_getI X dX0_isLike_1 f_X0_19 rfl (by assumption) ?_
  refine z_aload_n X dX0_isLike_4 rfl ?_
  refine z_getI X dX0_isLike_5 f_X0_19 rfl (by assumption) ?_
  refine z_icmp_ne X dX0_isLike_8 23 (by decide) (by omega) (by omega) (fun h8 => ?_) (fun h8 => ?_)
  · refine z_iconst X dX0_isLike_23 ?_
    refine z_zreturn (st := []) X rfl hQ dX0_isLike_24 (by first | exact Or.inl rfl | exact Or.inr rfl | omega) ⟨rfl, _, rfl, ?_⟩
    exact ⟨rfl, Or.inr ⟨rfl, by omega⟩⟩
  · refine z_aload_n X dX0_isLike_11 rfl ?_
    refine z_aload_n X dX0_isLike_12 rfl ?_
    refine z_callVi X (As := [_]) dX0_isLike_13 m_X0_compareSizes i_X0_compareSizes l_X0_52 (c_X0_compareSizes (zg E) hA hB hq hx tq tx) (by assumption) rfl rfl rfl (Nat.le_of_ble_eq_true rfl) ⟨Nat.le_of_ble_eq_true rfl, Nat.le_of_ble_eq_true rfl⟩ ⟨Nat.le_of_ble_eq_true rfl, Nat.le_of_ble_eq_true rfl⟩ ⟨rfl, rfl⟩ (fun r m1 hm => ?_)
    obtain ⟨rfl, hm⟩ := hm
    refine z_if_ne X dX0_isLike_16 23 (by decide) (by omega) (fun h16 => ?_) (fun h16 => ?_)
    · refine z_iconst X dX0_isLike_23 ?_
      refine z_zreturn (st := []) X rfl hQ dX0_isLike_24 (by first | exact Or.inl rfl | exact Or.inr rfl | omega) ⟨rfl, _, rfl, ?_⟩
      exact ⟨rfl, Or.inr ⟨rfl, by omega⟩⟩
    · refine z_iconst X dX0_isLike_19 ?_
      refine z_goto X dX0_isLike_20 24 (by decide) ?_
      refine z_zreturn (st := []) X rfl hQ dX0_isLike_24 (by first | exact Or.inl rfl | exact Or.inr rfl | omega) ⟨rfl, _, rfl, ?_⟩
      exact ⟨rfl, Or.inl ⟨rfl, by omega⟩⟩

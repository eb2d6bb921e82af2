/-! Enclosure.read -/
theorem zfg_scale {l D c b : Int} (hc : 0 < c) (k : Nat) : zfg (l * c) (D * c) b k = zfg l D b k := by
  unfold zfg
  have e : l * c * b ^ (k + 1) = l * b ^ (k + 1) * c := by grind
  rw [e, Int.mul_ediv_mul_of_pos_left _ _ hc]
theorem zfg_mod {l D b : Int} (hD : 0 < D) (k : Nat) : zfg (l % D) D b k = zfg l D b k := by
  unfold zfg
  have h := Int.emod_add_mul_ediv l D
  have e : l * b ^ (k + 1) = l % D * b ^ (k + 1) + D * (l / D * b ^ (k + 1)) := by
    have : l * b ^ (k + 1) = (l % D + D * (l / D)) * b ^ (k + 1) := by rw [h]
    rw [this]; grind
  rw [e, Int.add_mul_ediv_left _ _ (by omega), Int.pow_succ b k]
  have e2 : l / D * (b ^ k * b) = b * (l / D * b ^ k) := by grind
  rw [e2, Int.add_mul_emod_self_left]
theorem zbi.sz {m : zM} {q N : Nat} {v : Int} (h : zbi m q N v) : ∃ n : Nat, m q 1 = (n : Int) ∧ n ≤ N ∧ (n = 0 ↔ v = 0) ∧ ((m q 2 = 0 ∧ 0 ≤ v) ∨ (m q 2 = 1 ∧ v < 0)) := by
  obtain ⟨n, hr, ht, hv, hs⟩ := h.abs
  refine ⟨n, hr.1, hr.2.1, ⟨fun h0 => ?_, fun h0 => ?_⟩, hs⟩
  · rw [h0, zsum_0] at hv; omega
  · rcases Nat.eq_zero_or_pos n with h1 | h1
    · exact h1
    · exfalso
      obtain ⟨d, rfl⟩ : ∃ d, n = d + 1 := ⟨n - 1, by omega⟩
      have g1 := zsum_top (b := 1073741824) (n := d) (by omega) (fun i hi => (hr.2.2 i hi).1) (ht (by omega))
      have g2 := zpow_pos (b := 1073741824) (by omega) d
      omega
theorem zbi.abs0 {m : zM} {q N : Nat} {v : Int} (h : zbi m q N v) : zbi (zms m q 2 0) q N (v.natAbs : Int) := by
  obtain ⟨n, hr, ht, hv, hs⟩ := h.abs
  refine zbi.mk (n := n) ⟨by simp [zms]; exact hr.1, hr.2.1, fun i hi => by simpa [zms] using hr.2.2 i hi⟩ (fun h0 => by simpa [zms] using ht h0) ?_ (Or.inl ⟨zms_same _ _ _ _, by omega⟩)
  rw [Int.natAbs_natCast, hv]
  exact zsum_congr (fun i _ => by simp [zms])
theorem zt_read142 {E : zCx} (X : zOK E cX2_read RX2 6 none k_X2_read.2.2.2.2) {A : zA} {m : zM} {e x y f n : Nat} {L0 H0 l g D b : Int} {v2 v3 : Value} {P : zM → Prop} (hQ : zRet E (zpv A P) 0 0) (hA : zencA A e) (hrel : (x = e + 1 ∧ y = e + 3 ∧ L0 = l ∧ H0 = g) ∨ (x = e + 3 ∧ y = e + 1 ∧ L0 = g ∧ H0 = l)) (hFA : zfigA A f) (hf : f + 2 ≤ e ∨ e + 9 ≤ f) (hL : zbi m (e + 1) 660 L0) (hH : zbi m (e + 3) 660 H0) (hD : zbi m (e + 5) 660 D) (bL : zle L0 19372) (bH : zle H0 19372) (bD : zle D 19360) (hD0 : 0 < D) (hl : 0 ≤ l) (hlg : l ≤ g) (hb : 2 ≤ b ∧ b ≤ 36) (hn : n ≤ 100) (h2 : m f 2 = b) (h3 : m f 3 = (n : Int)) (h6 : m f 6 = -6) (h7 : m f 7 = 0)
    (hP0 : ∀ m', (D * 4611686018427387904 ≤ g ∨ l / D ≠ g / D) → m' f 6 = -6 → m' f 7 = 0 → (∀ a j, (a < e ∨ e + 9 ≤ a) → (a = f ∧ (j = 6 ∨ j = 7)) ∨ a = f + 1 ∨ m' a j = m a j) → P m')
    (hP1 : ∀ m' (s : Nat), g < D * 4611686018427387904 → l / D = g / D → m' f 7 = l / D → m' f 6 = (s : Int) → zsame (zfg l D b) (zfg g D b) n s → (∀ k, k < s → m' (f + 1) k = zfg l D b k) → (∀ a j, (a < e ∨ e + 9 ≤ a) → (a = f ∧ (j = 6 ∨ j = 7)) ∨ a = f + 1 ∨ m' a j = m a j) → P m') :
    zW E (0, 0) A m 142 [some (vr e), some (vr f), some v2, some v3, some (vr x), some (vr y)] [] := by
  obtain ⟨hA1, ⟨hA2, hA3, hA4, hA5⟩, hb1, hb2, hb3, hb4⟩ := id hA
  obtain ⟨hF1, hF2, hF3⟩ := id hFA
  have hX : zbigA A x 660 := by rcases hrel with h | h <;> (rw [h.1]; assumption)
  have hY : zbigA A y 660 := by rcases hrel with h | h <;> (rw [h.2.1]; assumption)
  refine z_aload_n X dX2_read_142 rfl ?_
  refine z_callVv X (As := []) dX2_read_143 m_X2_scale i_X2_scale l_X2_67 (c_X2_scale (zg E) hA hL hH hD bL bH bD hD0) (by first | assumption | exact zbigA.o (by assumption)) rfl rfl rfl (Nat.le_of_ble_eq_true rfl) ⟨Nat.le_of_ble_eq_true rfl, Nat.le_of_ble_eq_true rfl⟩ ⟨Nat.le_of_ble_eq_true rfl, Nat.le_of_ble_eq_true rfl⟩ ⟨rfl, rfl⟩ (fun m1 hm => ?_)
  obtain ⟨Z, t, hZ, hL, hH, hu, ht, hw1, hw2, hF⟩ := hm
  have hx : zbi m1 x 660 (l * Z) := by rcases hrel with ⟨rfl, rfl, rfl, rfl⟩ | ⟨rfl, rfl, rfl, rfl⟩ <;> assumption
  have hy : zbi m1 y 660 (g * Z) := by rcases hrel with ⟨rfl, rfl, rfl, rfl⟩ | ⟨rfl, rfl, rfl, rfl⟩ <;> assumption
  have e6 : m1 f 6 = -6 := (hF _ _ (by omega) (by omega)).trans h6
  have e7 : m1 f 7 = 0 := (hF _ _ (by omega) (by omega)).trans h7
  have e2 : m1 f 2 = b := (hF _ _ (by omega) (by omega)).trans h2
  have e3 : m1 f 3 = (n : Int) := (hF _ _ (by omega) (by omega)).trans h3
  obtain ⟨ny, hry, hty, hvy, hsy⟩ := hy.abs
  obtain ⟨nu, hru, htu, hvu, hsu⟩ := hu.abs
  have hw0 : 0 < D * (4611686018427387904 * Z) := Int.mul_pos hD0 (by omega)
  have hgZ : 0 ≤ g * Z := Int.mul_nonneg (by omega) (by omega)
  have hlZ : 0 ≤ l * Z := Int.mul_nonneg hl (by omega)
  have hlgZ : l * Z ≤ g * Z := Int.mul_le_mul_of_nonneg_right hlg (by omega)
  have eDZ : D * (4611686018427387904 * Z) = D * 4611686018427387904 * Z := by grind
  refine z_aload X dX2_read_146 rfl ?_
  refine z_aload_n X dX2_read_148 rfl ?_
  refine z_getR X dX2_read_149 f_X2_23 rfl (by first | assumption | exact zbigA.o (by assumption)) (by assumption) ?_
  refine z_callVi X (As := [_]) dX2_read_152 m_X0_compareSizes i_X0_compareSizes l_X2_70 (c_X0_compareSizes (zg E) hY hb3 hry hru hty htu) (by first | assumption | exact zbigA.o (by assumption)) rfl rfl rfl (Nat.le_of_ble_eq_true rfl) ⟨Nat.le_of_ble_eq_true rfl, Nat.le_of_ble_eq_true rfl⟩ ⟨Nat.le_of_ble_eq_true rfl, Nat.le_of_ble_eq_true rfl⟩ ⟨rfl, rfl⟩ (fun r m2 hm => ?_)
  obtain ⟨rfl, hr⟩ := hm
  have hcmp : r < 0 ↔ g < D * 4611686018427387904 := by
    have h1 : r < 0 ↔ g * Z < D * 4611686018427387904 * Z := by rw [← eDZ]; omega
    rw [h1]
    exact ⟨fun h => Int.lt_of_mul_lt_mul_right h (by omega), fun h => Int.mul_lt_mul_of_pos_right h hZ⟩
  refine z_if_ge X dX2_read_155 179 (by decide) (by omega) (fun h155 => ?_) (fun h155 => ?_)
  · refine z_return (st := []) X rfl hQ dX2_read_179 ⟨rfl, rfl, ?_⟩
    exact hP0 m1 (Or.inl (by omega)) e6 e7 (fun a j ha => Or.inr (Or.inr (hF a j ha ha)))
  · refine z_aload_n X dX2_read_158 rfl ?_
    refine z_aload X dX2_read_159 rfl ?_
    refine z_aload X dX2_read_161 rfl ?_
    refine z_aload_n X dX2_read_163 rfl ?_
    have hg : g < D * 4611686018427387904 := hcmp.mp (by omega)
    have hgw : g * Z < D * (4611686018427387904 * Z) := by rw [eDZ]; exact Int.mul_lt_mul_of_pos_right hg hZ
    have ediv : ∀ v : Int, v * Z * 4611686018427387904 / (D * (4611686018427387904 * Z)) = v / D := fun v => by
      have : v * Z * 4611686018427387904 = v * (4611686018427387904 * Z) := by grind
      rw [this, Int.mul_ediv_mul_of_pos_left _ _ (by omega)]
    have emod : ∀ v : Int, v * Z * 4611686018427387904 % (D * (4611686018427387904 * Z)) = v % D * (4611686018427387904 * Z) := fun v => by
      have : v * Z * 4611686018427387904 = v * (4611686018427387904 * Z) := by grind
      rw [this, Int.mul_comm v, Int.mul_comm D, Int.mul_emod_mul_of_pos _ _ (by omega), Int.mul_comm]
    refine z_callVi X (As := [_, _, _]) dX2_read_164 m_X2_readWhole i_X2_readWhole l_X2_74 (c_X2_readWhole (zg E) hA (by omega) hFA hf hx hy hu (by omega) (by omega) ht hw1 hw2) (by first | assumption | exact zbigA.o (by assumption)) rfl rfl rfl (Nat.le_of_ble_eq_true rfl) ⟨Nat.le_of_ble_eq_true rfl, Nat.le_of_ble_eq_true rfl⟩ ⟨Nat.le_of_ble_eq_true rfl, Nat.le_of_ble_eq_true rfl⟩ ⟨rfl, rfl⟩ (fun r2 m3 hm => ?_)
    obtain ⟨hm, hG⟩ := hm
    rw [ediv, ediv, emod, emod] at hm
    refine z_if_eq X dX2_read_167 179 (by decide) (by omega) (fun h167 => ?_) (fun h167 => ?_)
    · refine z_return (st := []) X rfl hQ dX2_read_179 ⟨rfl, rfl, ?_⟩
      rcases hm with ⟨h1, _⟩ | ⟨_, h1, h6', h7'⟩
      · omega
      · refine hP0 m3 (Or.inr h1) (by omega) (by omega) (fun a j ha => ?_)
        have q1 := hG a j ha
        have q2 := hF a j ha ha
        omega
    · obtain ⟨hr2, hq, hx, hy, hu, e7, e6⟩ : r2 = 1 ∧ l / D = g / D ∧ zbi m3 x 660 (l % D * (4611686018427387904 * Z)) ∧ zbi m3 y 660 (g % D * (4611686018427387904 * Z)) ∧ zbi m3 (e + 5) 660 (D * (4611686018427387904 * Z)) ∧ m3 f 7 = l / D ∧ m3 f 6 = 0 := by rcases hm with h | h; exact h; exact absurd h.1 (by omega)
      have e2' : m3 f 2 = b := by have := hG f 2 (by omega); omega
      have e3' : m3 f 3 = (n : Int) := by have := hG f 3 (by omega); omega
      have rl : 0 ≤ l % D ∧ l % D < D := ⟨Int.emod_nonneg _ (by omega), Int.emod_lt_of_pos _ hD0⟩
      have rg : 0 ≤ g % D ∧ g % D < D := ⟨Int.emod_nonneg _ (by omega), Int.emod_lt_of_pos _ hD0⟩
      have hZ2 : 0 < 4611686018427387904 * Z := by omega
      refine z_aload_n X dX2_read_170 rfl ?_
      refine z_aload X dX2_read_171 rfl ?_
      refine z_aload X dX2_read_173 rfl ?_
      refine z_aload_n X dX2_read_175 rfl ?_
      refine z_callVv X (As := [_, _, _]) dX2_read_176 m_X2_readFigures i_X2_readFigures l_X2_78 (c_X2_readFigures (zg E) hA (by omega) hFA hf hw0 ⟨Int.mul_nonneg rl.1 (by omega), Int.mul_lt_mul_of_pos_right rl.2 hZ2⟩ ⟨Int.mul_nonneg rg.1 (by omega), Int.mul_lt_mul_of_pos_right rg.2 hZ2⟩ ht hw1 hw2 hb hn e6 e2' e3' hx hy hu) (by first | assumption | exact zbigA.o (by assumption)) rfl rfl rfl (Nat.le_of_ble_eq_true rfl) ⟨Nat.le_of_ble_eq_true rfl, Nat.le_of_ble_eq_true rfl⟩ ⟨Nat.le_of_ble_eq_true rfl, Nat.le_of_ble_eq_true rfl⟩ ⟨rfl, rfl⟩ (fun m4 hm4 => ?_)
      refine z_return (st := []) X rfl hQ dX2_read_179 ⟨rfl, rfl, ?_⟩
      obtain ⟨s, k1, k2, k3, k4⟩ := hm4
      have ef : ∀ v : Int, zfg (v % D * (4611686018427387904 * Z)) (D * (4611686018427387904 * Z)) b = zfg v D b := fun v => funext (fun k => by rw [zfg_scale hZ2, zfg_mod hD0])
      rw [ef, ef] at k2
      rw [ef] at k3
      refine hP1 m4 s hg hq (by have := k4 f 7 (by omega); omega) k1 k2 k3 (fun a j ha => ?_)
      have q1 := k4 a j ha
      have q2 := hG a j ha
      have q3 := hF a j ha ha
      omega
def zsgn (L H : Int) : Int := if 0 < L then 1 else if H < 0 then -1 else 0
def zlo (L H : Int) : Int := if 0 < L then L else -H
def zhi (L H : Int) : Int := if 0 < L then H else -L
/-- what is told of L / D and H / D in base b, n figures at most: sign, how many are sure (-6: not even the whole), the whole, the figures -/
def ztold (L H D b : Int) (n : Nat) (sg S : Int) (s : Nat) (wh : Int) (dg : Nat → Int) : Prop := sg = zsgn L H ∧
  (((sg = 0 ∨ D * 4611686018427387904 ≤ zhi L H ∨ zlo L H / D ≠ zhi L H / D) ∧ S = -6 ∧ s = 0 ∧ wh = 0) ∨
   (sg ≠ 0 ∧ zhi L H < D * 4611686018427387904 ∧ zlo L H / D = zhi L H / D ∧ wh = zlo L H / D ∧ S = (s : Int) ∧ zsame (zfg (zlo L H) D b) (zfg (zhi L H) D b) n s ∧ ∀ k, k < s → dg k = zfg (zlo L H) D b k))
theorem zt_read52 {E : zCx} (X : zOK E cX2_read RX2 6 none k_X2_read.2.2.2.2) {A : zA} {m : zM} {e f n : Nat} {L H D b x2 x3 : Int} {P : zM → Prop} (hQ : zRet E (zpv A P) 0 0) (hA : zencA A e) (hFA : zfigA A f) (hf : f + 2 ≤ e ∨ e + 9 ≤ f) (hL : zbi m (e + 1) 660 L) (hH : zbi m (e + 3) 660 H) (hD : zbi m (e + 5) 660 D) (bL : zle L 19372) (bH : zle H 19372) (bD : zle D 19360) (hD0 : 0 < D) (hLH : L ≤ H) (hb : 2 ≤ b ∧ b ≤ 36) (hn : n ≤ 100) (h2 : m f 2 = b) (h3 : m f 3 = (n : Int)) (hx2 : (x2 = 1 ∧ 0 < L) ∨ (x2 = 0 ∧ L ≤ 0)) (hx3 : (x3 = 1 ∧ H < 0) ∨ (x3 = 0 ∧ 0 ≤ H))
    (hP : ∀ m' (s : Nat), ztold L H D b n (m' f 5) (m' f 6) s (m' f 7) (m' (f + 1)) → (∀ a j, (a < e ∨ e + 9 ≤ a) → (a = f ∧ (j = 5 ∨ j = 6 ∨ j = 7)) ∨ a = f + 1 ∨ m' a j = m a j) → P m') :
    zW E (0, 0) A m 52 [some (vr e), some (vr f), some (vi x2), some (vi x3), none, none] [] := by
  obtain ⟨hA1, ⟨hA2, hA3, hA4, hA5⟩, hb1, hb2, hb3, hb4⟩ := id hA
  obtain ⟨hF1, hF2, hF3⟩ := id hFA
  have key : ∀ sg : Int, sg = zsgn L H → sg = 0 → P (zms (zms (zms m f 5 sg) f 6 (-6)) f 7 0) := fun sg h1 h2 => by
    refine hP _ 0 ⟨by simp [zms]; exact h1, Or.inl ⟨Or.inl (by simp [zms]; exact h2), by simp [zms], rfl, by simp [zms]⟩⟩ (fun a j ha => ?_)
    by_cases h3 : a = f ∧ (j = 5 ∨ j = 6 ∨ j = 7)
    · exact Or.inl h3
    · exact Or.inr (Or.inr (by rw [zms_ne _ _ _ _ (by omega), zms_ne _ _ _ _ (by omega), zms_ne _ _ _ _ (by omega)]))
  have tail : ∀ (sg : Int) (x y : Nat) (L0 H0 : Int) (v2 v3 : Value), sg = zsgn L H → sg ≠ 0 → L0 = (L.natAbs : Int) → H0 = (H.natAbs : Int) → ((x = e + 1 ∧ y = e + 3 ∧ L0 = zlo L H ∧ H0 = zhi L H) ∨ (x = e + 3 ∧ y = e + 1 ∧ L0 = zhi L H ∧ H0 = zlo L H)) → 0 ≤ zlo L H → zlo L H ≤ zhi L H → zW E (0, 0) A (zms (zms (zms (zms (zms m f 5 sg) f 6 (-6)) f 7 0) (e + 1) 2 0) (e + 3) 2 0) 142 [some (vr e), some (vr f), some v2, some v3, some (vr x), some (vr y)] [] := by
    intro sg x y L0 H0 v2 v3 h1 hne e1 e2 hrel hl hlg
    have gL : zbi (zms (zms (zms (zms (zms m f 5 sg) f 6 (-6)) f 7 0) (e + 1) 2 0) (e + 3) 2 0) (e + 1) 660 L0 := by rw [e1]; exact ((((hL.w (by omega)).w (by omega)).w (by omega)).abs0).w (by omega)
    have gH : zbi (zms (zms (zms (zms (zms m f 5 sg) f 6 (-6)) f 7 0) (e + 1) 2 0) (e + 3) 2 0) (e + 3) 660 H0 := by rw [e2]; exact ((((hH.w (by omega)).w (by omega)).w (by omega)).w (by omega)).abs0
    have gD : zbi (zms (zms (zms (zms (zms m f 5 sg) f 6 (-6)) f 7 0) (e + 1) 2 0) (e + 3) 2 0) (e + 5) 660 D := ((((hD.w (by omega)).w (by omega)).w (by omega)).w (by omega)).w (by omega)
    have fr : ∀ j, zms (zms (zms (zms (zms m f 5 sg) f 6 (-6)) f 7 0) (e + 1) 2 0) (e + 3) 2 0 f j = zms (zms (zms m f 5 sg) f 6 (-6)) f 7 0 f j := fun j => by rw [zms_nq _ _ _ _ _ (by omega), zms_nq _ _ _ _ _ (by omega)]
    have fo : ∀ a j, (a < e ∨ e + 9 ≤ a) → (a = f ∧ (j = 5 ∨ j = 6 ∨ j = 7)) ∨ zms (zms (zms (zms (zms m f 5 sg) f 6 (-6)) f 7 0) (e + 1) 2 0) (e + 3) 2 0 a j = m a j := fun a j ha => by
      by_cases h3 : a = f ∧ (j = 5 ∨ j = 6 ∨ j = 7)
      · exact Or.inl h3
      · exact Or.inr (by rw [zms_nq _ _ _ _ _ (by omega), zms_nq _ _ _ _ _ (by omega), zms_ne _ _ _ _ (by omega), zms_ne _ _ _ _ (by omega), zms_ne _ _ _ _ (by omega)])
    have w5 : zms (zms (zms (zms (zms m f 5 sg) f 6 (-6)) f 7 0) (e + 1) 2 0) (e + 3) 2 0 f 5 = sg := by rw [fr]; simp [zms]
    refine zt_read142 X hQ hA hrel hFA hf gL gH gD (by rw [e1]; unfold zle at *; omega) (by rw [e2]; unfold zle at *; omega) bD hD0 hl hlg hb hn (by rw [fr]; simp [zms]; exact h2) (by rw [fr]; simp [zms]; exact h3) (by rw [fr]; simp [zms]) (by rw [fr]; simp [zms]) (fun m' k1 k2 k3 k4 => ?_) (fun m' s k1 k2 k3 k4 k5 k6 k7 => ?_)
    · have q5 := k4 f 5 (by omega)
      refine hP m' 0 ⟨by omega, Or.inl ⟨Or.inr k1, k2, rfl, k3⟩⟩ (fun a j ha => ?_)
      have q1 := k4 a j ha
      have q2 := fo a j ha
      omega
    · have q5 := k7 f 5 (by omega)
      refine hP m' s ⟨by omega, Or.inr ⟨by omega, k1, k2, k3, k4, k5, k6⟩⟩ (fun a j ha => ?_)
      have q1 := k7 a j ha
      have q2 := fo a j ha
      omega
  have s1 : 0 < L → zsgn L H = 1 ∧ zlo L H = L ∧ zhi L H = H := fun h => by unfold zsgn zlo zhi; simp [h]
  have s2 : L ≤ 0 → H < 0 → zsgn L H = -1 ∧ zlo L H = -H ∧ zhi L H = -L := fun h g => by unfold zsgn zlo zhi; simp [g, show ¬ 0 < L by omega]
  have s3 : L ≤ 0 → 0 ≤ H → zsgn L H = 0 := fun h g => by unfold zsgn; rw [if_neg (by omega), if_neg (by omega)]
  refine z_aload_n X dX2_read_52 rfl ?_
  refine z_iload_n X dX2_read_53 rfl ?_
  refine z_if_eq X dX2_read_54 61 (by decide) (by omega) (fun h54 => ?_) (fun h54 => ?_)
  · refine z_iload_n X dX2_read_61 rfl ?_
    refine z_if_eq X dX2_read_62 69 (by decide) (by omega) (fun h62 => ?_) (fun h62 => ?_)
    · refine z_iconst X dX2_read_69 ?_
      refine z_putI X dX2_read_70 f_X2_55 rfl rfl (by first | assumption | exact zbigA.o (by assumption)) ?_
      refine z_aload_n X dX2_read_73 rfl ?_
      refine z_bipush X dX2_read_74 (by decide) ?_
      refine z_putI X dX2_read_76 f_X2_60 rfl rfl (by first | assumption | exact zbigA.o (by assumption)) ?_
      refine z_aload_n X dX2_read_79 rfl ?_
      refine z_lconst X dX2_read_80 0 rfl ?_
      refine z_putL X dX2_read_81 f_X2_63 rfl rfl (by assumption) ?_
      refine z_aload_n X dX2_read_84 rfl ?_
      skip
      refine z_getI X dX2_read_85 f_X2_55 rfl (by first | assumption | exact zbigA.o (by assumption)) ?_
      rw [zms_nk _ _ _ _ _ (by omega), zms_nk _ _ _ _ _ (by omega), zms_same]
      refine z_if_ne X dX2_read_88 92 (by decide) (by omega) (fun h88 => ?_) (fun h88 => ?_)
      · exact absurd rfl h88
      · refine z_return (st := []) X rfl hQ dX2_read_91 ⟨rfl, rfl, ?_⟩
        exact key 0 (s3 (by omega) (by omega)).symm rfl
    · refine z_iconst X dX2_read_65 ?_
      refine z_goto X dX2_read_66 70 (by decide) ?_
      refine z_putI X dX2_read_70 f_X2_55 rfl rfl (by first | assumption | exact zbigA.o (by assumption)) ?_
      refine z_aload_n X dX2_read_73 rfl ?_
      refine z_bipush X dX2_read_74 (by decide) ?_
      refine z_putI X dX2_read_76 f_X2_60 rfl rfl (by first | assumption | exact zbigA.o (by assumption)) ?_
      refine z_aload_n X dX2_read_79 rfl ?_
      refine z_lconst X dX2_read_80 0 rfl ?_
      refine z_putL X dX2_read_81 f_X2_63 rfl rfl (by assumption) ?_
      refine z_aload_n X dX2_read_84 rfl ?_
      skip
      refine z_getI X dX2_read_85 f_X2_55 rfl (by first | assumption | exact zbigA.o (by assumption)) ?_
      rw [zms_nk _ _ _ _ _ (by omega), zms_nk _ _ _ _ _ (by omega), zms_same]
      refine z_if_ne X dX2_read_88 92 (by decide) (by omega) (fun h88 => ?_) (fun h88 => ?_)
      · refine z_aload_n X dX2_read_92 rfl ?_
        refine z_getR X dX2_read_93 f_X2_14 rfl (by first | assumption | exact zbigA.o (by assumption)) (by assumption) ?_
        refine z_iconst X dX2_read_96 ?_
        refine z_putZ X dX2_read_97 f_X2_51 (by first | exact Or.inl rfl | exact Or.inr rfl | omega) rfl rfl (by first | assumption | exact zbigA.o (by assumption)) ?_
        refine z_aload_n X dX2_read_100 rfl ?_
        refine z_getR X dX2_read_101 f_X2_20 rfl (by first | assumption | exact zbigA.o (by assumption)) (by assumption) ?_
        refine z_iconst X dX2_read_104 ?_
        refine z_putZ X dX2_read_105 f_X2_51 (by first | exact Or.inl rfl | exact Or.inr rfl | omega) rfl rfl (by first | assumption | exact zbigA.o (by assumption)) ?_
        refine z_iload_n X dX2_read_108 rfl ?_
        refine z_if_eq X dX2_read_109 119 (by decide) (by omega) (fun h109 => ?_) (fun h109 => ?_)
        · refine z_aload_n X dX2_read_119 rfl ?_
          refine z_getR X dX2_read_120 f_X2_20 rfl (by first | assumption | exact zbigA.o (by assumption)) (by assumption) ?_
          refine z_astore X dX2_read_123 [_, _, _, _, _, _] (by decide) rfl ?_
          refine z_iload_n X dX2_read_125 rfl ?_
          refine z_if_eq X dX2_read_126 136 (by decide) (by omega) (fun h126 => ?_) (fun h126 => ?_)
          · refine z_aload_n X dX2_read_136 rfl ?_
            refine z_getR X dX2_read_137 f_X2_14 rfl (by first | assumption | exact zbigA.o (by assumption)) (by assumption) ?_
            refine z_astore X dX2_read_140 [_, _, _, _, _, _] (by decide) rfl ?_
            have s4 := s2 (by omega) (by omega)
            exact tail (-1) (e + 3) (e + 1) _ _ _ _ s4.1.symm (by omega) rfl rfl (Or.inr ⟨rfl, rfl, by omega, by omega⟩) (by omega) (by omega)
          · exact absurd (by omega) h126
        · exact absurd (by omega) h109
      · exact absurd (by omega) h88
  · refine z_iconst X dX2_read_57 ?_
    refine z_goto X dX2_read_58 70 (by decide) ?_
    refine z_putI X dX2_read_70 f_X2_55 rfl rfl (by first | assumption | exact zbigA.o (by assumption)) ?_
    refine z_aload_n X dX2_read_73 rfl ?_
    refine z_bipush X dX2_read_74 (by decide) ?_
    refine z_putI X dX2_read_76 f_X2_60 rfl rfl (by first | assumption | exact zbigA.o (by assumption)) ?_
    refine z_aload_n X dX2_read_79 rfl ?_
    refine z_lconst X dX2_read_80 0 rfl ?_
    refine z_putL X dX2_read_81 f_X2_63 rfl rfl (by assumption) ?_
    refine z_aload_n X dX2_read_84 rfl ?_
    skip
    refine z_getI X dX2_read_85 f_X2_55 rfl (by first | assumption | exact zbigA.o (by assumption)) ?_
    rw [zms_nk _ _ _ _ _ (by omega), zms_nk _ _ _ _ _ (by omega), zms_same]
    refine z_if_ne X dX2_read_88 92 (by decide) (by omega) (fun h88 => ?_) (fun h88 => ?_)
    · refine z_aload_n X dX2_read_92 rfl ?_
      refine z_getR X dX2_read_93 f_X2_14 rfl (by first | assumption | exact zbigA.o (by assumption)) (by assumption) ?_
      refine z_iconst X dX2_read_96 ?_
      refine z_putZ X dX2_read_97 f_X2_51 (by first | exact Or.inl rfl | exact Or.inr rfl | omega) rfl rfl (by first | assumption | exact zbigA.o (by assumption)) ?_
      refine z_aload_n X dX2_read_100 rfl ?_
      refine z_getR X dX2_read_101 f_X2_20 rfl (by first | assumption | exact zbigA.o (by assumption)) (by assumption) ?_
      refine z_iconst X dX2_read_104 ?_
      refine z_putZ X dX2_read_105 f_X2_51 (by first | exact Or.inl rfl | exact Or.inr rfl | omega) rfl rfl (by first | assumption | exact zbigA.o (by assumption)) ?_
      refine z_iload_n X dX2_read_108 rfl ?_
      refine z_if_eq X dX2_read_109 119 (by decide) (by omega) (fun h109 => ?_) (fun h109 => ?_)
      · exact absurd h109 (by omega)
      · refine z_aload_n X dX2_read_112 rfl ?_
        refine z_getR X dX2_read_113 f_X2_14 rfl (by first | assumption | exact zbigA.o (by assumption)) (by assumption) ?_
        refine z_goto X dX2_read_116 123 (by decide) ?_
        refine z_astore X dX2_read_123 [_, _, _, _, _, _] (by decide) rfl ?_
        refine z_iload_n X dX2_read_125 rfl ?_
        refine z_if_eq X dX2_read_126 136 (by decide) (by omega) (fun h126 => ?_) (fun h126 => ?_)
        · exact absurd h126 (by omega)
        · refine z_aload_n X dX2_read_129 rfl ?_
          refine z_getR X dX2_read_130 f_X2_20 rfl (by first | assumption | exact zbigA.o (by assumption)) (by assumption) ?_
          refine z_goto X dX2_read_133 140 (by decide) ?_
          refine z_astore X dX2_read_140 [_, _, _, _, _, _] (by decide) rfl ?_
          have s4 := s1 (by omega)
          exact tail 1 (e + 1) (e + 3) _ _ _ _ s4.1.symm (by omega) rfl rfl (Or.inl ⟨rfl, rfl, by omega, by omega⟩) (by omega) (by omega)
    · exact absurd (by omega) h88
theorem zt_read26 {E : zCx} (X : zOK E cX2_read RX2 6 none k_X2_read.2.2.2.2) {A : zA} {m : zM} {e f : Nat} {H x2 : Int} (hA : zencA A e) (hFA : zfigA A f) (hH : zbi m (e + 3) 660 H)
    (K : ∀ x3 : Int, ((x3 = 1 ∧ H < 0) ∨ (x3 = 0 ∧ 0 ≤ H)) → zW E (0, 0) A m 52 [some (vr e), some (vr f), some (vi x2), some (vi x3), none, none] []) : zW E (0, 0) A m 26 [some (vr e), some (vr f), some (vi x2), none, none, none] [] := by
  obtain ⟨hA1, ⟨hA2, hA3, hA4, hA5⟩, hb1, hb2, hb3, hb4⟩ := id hA
  obtain ⟨k, h1, h2, h3, h4⟩ := hH.sz
  refine z_aload_n X dX2_read_26 rfl ?_
  refine z_getR X dX2_read_27 f_X2_20 rfl (by first | assumption | exact zbigA.o (by assumption)) (by assumption) ?_
  refine z_getI X dX2_read_30 f_X2_47 rfl (by first | assumption | exact zbigA.o (by assumption)) ?_
  refine z_if_le X dX2_read_33 50 (by decide) (by omega) (fun h33 => ?_) (fun h33 => ?_)
  · refine z_iconst X dX2_read_50 ?_
    refine z_istore_n X dX2_read_51 (fun y => [_, _, _, some (vi y), _, _]) (by decide) (fun _ => rfl) (fun x3 hx3 => ?_)
    exact K _ (by omega)
  · refine z_aload_n X dX2_read_36 rfl ?_
    refine z_getR X dX2_read_37 f_X2_20 rfl (by first | assumption | exact zbigA.o (by assumption)) (by assumption) ?_
    refine z_getI X dX2_read_40 f_X2_51 rfl (by first | assumption | exact zbigA.o (by assumption)) ?_
    refine z_if_eq X dX2_read_43 50 (by decide) (by omega) (fun h43 => ?_) (fun h43 => ?_)
    · refine z_iconst X dX2_read_50 ?_
      refine z_istore_n X dX2_read_51 (fun y => [_, _, _, some (vi y), _, _]) (by decide) (fun _ => rfl) (fun x3 hx3 => ?_)
      exact K _ (by omega)
    · refine z_iconst X dX2_read_46 ?_
      refine z_goto X dX2_read_47 51 (by decide) ?_
      refine z_istore_n X dX2_read_51 (fun y => [_, _, _, some (vi y), _, _]) (by decide) (fun _ => rfl) (fun x3 hx3 => ?_)
      exact K _ (by omega)
theorem c_X2_read (G : zG) {A : zA} {m : zM} {e f n : Nat} {L H D b : Int} (hA : zencA A e) (hFA : zfigA A f) (hf : f + 2 ≤ e ∨ e + 9 ≤ f) (hL : zbi m (e + 1) 660 L) (hH : zbi m (e + 3) 660 H) (hD : zbi m (e + 5) 660 D) (bL : zle L 19372) (bH : zle H 19372) (bD : zle D 19360) (hD0 : 0 < D) (hLH : L ≤ H) (hb : 2 ≤ b ∧ b ≤ 36) (hn : n ≤ 100) (h2 : m f 2 = b) (h3 : m f 3 = (n : Int)) :
    zMet G k_X2_read [vr e, vr f] A m (zpv A (fun m' => (∃ s : Nat, ztold L H D b n (m' f 5) (m' f 6) s (m' f 7) (m' (f + 1))) ∧ ∀ a j, (a < e ∨ e + 9 ≤ a) → (a = f ∧ (j = 5 ∨ j = 6 ∨ j = 7)) ∨ a = f + 1 ∨ m' a j = m a j)) := by
  obtain ⟨hA1, ⟨hA2, hA3, hA4, hA5⟩, hb1, hb2, hb3, hb4⟩ := id hA
  obtain ⟨k, g1, g2, g3, g4⟩ := hL.sz
  refine zMet.of RX2 rfl (by decide +kernel) (Nat.le_of_ble_eq_true rfl) [some (vr e), some (vr f), none, none, none, none] rfl (fun E hG X hQ hNm => ?_)
  subst hG
  refine z_aload_n X dX2_read_0 rfl ?_
  refine z_getR X dX2_read_1 f_X2_14 rfl (by first | assumption | exact zbigA.o (by assumption)) (by assumption) ?_
  refine z_getI X dX2_read_4 f_X2_47 rfl (by first | assumption | exact zbigA.o (by assumption)) ?_
  refine z_if_le X dX2_read_7 24 (by decide) (by omega) (fun h7 => ?_) (fun h7 => ?_)
  · refine z_iconst X dX2_read_24 ?_
    refine z_istore_n X dX2_read_25 (fun y => [_, _, some (vi y), _, _, _]) (by decide) (fun _ => rfl) (fun x2 hx2 => ?_)
    exact zt_read26 X hA hFA hH (fun x3 hx3 => zt_read52 X hQ hA hFA hf hL hH hD bL bH bD hD0 hLH hb hn h2 h3 (by omega) hx3 (fun m' s q1 q2 => ⟨⟨s, q1⟩, q2⟩))
  · refine z_aload_n X dX2_read_10 rfl ?_
    refine z_getR X dX2_read_11 f_X2_14 rfl (by first | assumption | exact zbigA.o (by assumption)) (by assumption) ?_
    refine z_getI X dX2_read_14 f_X2_51 rfl (by first | assumption | exact zbigA.o (by assumption)) ?_
    refine z_if_ne X dX2_read_17 24 (by decide) (by omega) (fun h17 => ?_) (fun h17 => ?_)
    · refine z_iconst X dX2_read_24 ?_
      refine z_istore_n X dX2_read_25 (fun y => [_, _, some (vi y), _, _, _]) (by decide) (fun _ => rfl) (fun x2 hx2 => ?_)
      exact zt_read26 X hA hFA hH (fun x3 hx3 => zt_read52 X hQ hA hFA hf hL hH hD bL bH bD hD0 hLH hb hn h2 h3 (by omega) hx3 (fun m' s q1 q2 => ⟨⟨s, q1⟩, q2⟩))
    · refine z_iconst X dX2_read_20 ?_
      refine z_goto X dX2_read_21 25 (by decide) ?_
      refine z_istore_n X dX2_read_25 (fun y => [_, _, some (vi y), _, _, _]) (by decide) (fun _ => rfl) (fun x2 hx2 => ?_)
      exact zt_read26 X hA hFA hH (fun x3 hx3 => zt_read52 X hQ hA hFA hf hL hH hD bL bH bD hD0 hLH hb hn h2 h3 (by omega) hx3 (fun m' s q1 q2 => ⟨⟨s, q1⟩, q2⟩))

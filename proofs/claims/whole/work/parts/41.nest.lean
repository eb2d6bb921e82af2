/-! With a term more LOW to HIGH lies in what it was: what is sure stays sure -/
theorem zabs_mul (x y : Int) : ((x * y).natAbs : Int) = (x.natAbs : Int) * (y.natAbs : Int) := by
  rw [Int.natAbs_mul]; exact Int.natCast_mul _ _
/-- (l, h, d) encloses (l', h', d') -/
def znest (x y : Int × Int × Int) : Prop := x.1 * y.2.2 ≤ y.1 * x.2.2 ∧ y.2.1 * x.2.2 ≤ x.2.1 * y.2.2
theorem znest_core {X W s R K K' : Int} (hW : W ≠ 0) (hs : s ≠ 0) (h : (R.natAbs : Int) + K' ≤ K * (s.natAbs : Int)) :
    znest ((if W < 0 then -X else X) + -K, (if W < 0 then -X else X) + K, (W.natAbs : Int)) ((if W * s < 0 then -(X * s + R) else X * s + R) + -K', (if W * s < 0 then -(X * s + R) else X * s + R) + K', ((W * s).natAbs : Int)) := by
  obtain ⟨Y, hY⟩ : ∃ Y, Y = if W < 0 then -X else X := ⟨_, rfl⟩
  obtain ⟨Z, hZ⟩ : ∃ Z, Z = if W * s < 0 then -(X * s + R) else X * s + R := ⟨_, rfl⟩
  obtain ⟨D, hD⟩ : ∃ D : Int, D = (W.natAbs : Int) := ⟨_, rfl⟩
  obtain ⟨S, hS⟩ : ∃ S : Int, S = (s.natAbs : Int) := ⟨_, rfl⟩
  have key : ∃ R' : Int, Z = Y * S + R' ∧ -(R.natAbs : Int) ≤ R' ∧ R' ≤ (R.natAbs : Int) := by
    rcases Int.lt_or_le W 0 with w0 | w0 <;> rcases Int.lt_or_le s 0 with s0 | s0
    · have : 0 < W * s := Int.mul_pos_of_neg_of_neg w0 s0
      rw [if_neg (by omega)] at hZ
      rw [if_pos w0] at hY
      exact ⟨R, by rw [hZ, hY, hS, show (s.natAbs : Int) = -s by omega, Int.neg_mul_neg], by omega, by omega⟩
    · have : W * s < 0 := Int.mul_neg_of_neg_of_pos w0 (by omega)
      rw [if_pos this] at hZ
      rw [if_pos w0] at hY
      exact ⟨-R, by rw [hZ, hY, hS, show (s.natAbs : Int) = s by omega, Int.neg_mul]; omega, by omega, by omega⟩
    · have : W * s < 0 := Int.mul_neg_of_pos_of_neg (by omega) s0
      rw [if_pos this] at hZ
      rw [if_neg (by omega)] at hY
      exact ⟨-R, by rw [hZ, hY, hS, show (s.natAbs : Int) = -s by omega, Int.mul_neg]; omega, by omega, by omega⟩
    · have : 0 < W * s := Int.mul_pos (by omega) (by omega)
      rw [if_neg (by omega)] at hZ
      rw [if_neg (by omega)] at hY
      exact ⟨R, by rw [hZ, hY, hS, show (s.natAbs : Int) = s by omega], by omega, by omega⟩
  obtain ⟨R', h1, h2, h3⟩ := key
  rw [← hS] at h
  rw [← hY, ← hZ, zabs_mul, ← hD, ← hS]
  unfold znest
  dsimp only
  have hD0 : 0 ≤ D := by omega
  constructor
  · have e : (Y + -K) * S ≤ Z + -K' := by rw [h1, Int.add_mul, Int.neg_mul]; omega
    have := Int.mul_le_mul_of_nonneg_right e hD0
    have e2 : (Y + -K) * (D * S) = (Y + -K) * S * D := by grind
    rw [e2]; exact this
  · have e : Z + K' ≤ (Y + K) * S := by rw [h1, Int.add_mul]; omega
    have := Int.mul_le_mul_of_nonneg_right e hD0
    have e2 : (Y + K) * (D * S) = (Y + K) * S * D := by grind
    rw [e2]; exact this
theorem znest_add {x x' y y' : Int × Int × Int} (h1 : 0 < x.2.2) (h2 : 0 < x'.2.2) (h3 : 0 < y.2.2) (h4 : 0 < y'.2.2) (hx : znest x x') (hy : znest y y') :
    znest (y.1 * x.2.2 + x.1 * y.2.2, y.2.1 * x.2.2 + x.2.1 * y.2.2, x.2.2 * y.2.2) (y'.1 * x'.2.2 + x'.1 * y'.2.2, y'.2.1 * x'.2.2 + x'.2.1 * y'.2.2, x'.2.2 * y'.2.2) := by
  obtain ⟨a, b, c⟩ := x
  obtain ⟨a', b', c'⟩ := x'
  obtain ⟨d, e, f⟩ := y
  obtain ⟨d', e', f'⟩ := y'
  unfold znest at *
  dsimp only at *
  have p1 : 0 ≤ c * c' := Int.le_of_lt (Int.mul_pos h1 h2)
  have p2 : 0 ≤ f * f' := Int.le_of_lt (Int.mul_pos h3 h4)
  constructor
  · have w1 := Int.mul_le_mul_of_nonneg_right hy.1 p1
    have w2 := Int.mul_le_mul_of_nonneg_right hx.1 p2
    have e1 : (d * c + a * f) * (c' * f') = d * f' * (c * c') + a * c' * (f * f') := by grind
    have e2 : (d' * c' + a' * f') * (c * f) = d' * f * (c * c') + a' * c * (f * f') := by grind
    omega
  · have w1 := Int.mul_le_mul_of_nonneg_right hy.2 p1
    have w2 := Int.mul_le_mul_of_nonneg_right hx.2 p2
    have e1 : (e' * c' + b' * f') * (c * f) = e' * f * (c * c') + b' * c * (f * f') := by grind
    have e2 : (e * c + b * f) * (c' * f') = e * f' * (c * c') + b * c' * (f * f') := by grind
    omega
theorem zpart_nest {σ : zSt} {x : zPt} {N : Nat} (hb : zbnd (sU σ x.1) (sV σ x.1)) (hx : zptok x) (hN : 1 ≤ N) (h : zfl σ x.1 0 0 (N + 1) = -6) : znest (zplh σ x N) (zplh σ x (N + 1)) := by
  obtain ⟨M, rfl⟩ : ∃ M, N = M + 1 := ⟨N - 1, by omega⟩
  obtain ⟨t, m, n⟩ := x
  obtain ⟨q0, b0⟩ := zgo_nz0 (zfl_mono h (by omega : M + 1 ≤ M + 1 + 1))
  have hno := (zff_no _ 0).mp h (M + 1) (by omega) (by omega)
  have hq : zpval (sC σ t) 1 (M + 1) ≠ 0 := fun e => hno (Or.inl e)
  have hbb : zpval (sC σ t) 3 (M + 1) ≠ 0 := fun e => hno (Or.inr (Or.inl e))
  have hst : ¬ zsteep (sC σ t) (sU σ t) (sV σ t) (M + 1) := fun e => hno (Or.inr (Or.inr ⟨by omega, e⟩))
  unfold zsteep at hst
  rw [Nat.add_sub_cancel] at hst
  have hn : 1 ≤ n := hx.2.2.1
  obtain ⟨u1, u2, u3⟩ : 1 ≤ sU σ t ∧ sU σ t < sV σ t ∧ sV σ t ≤ 1000000 := hb
  obtain ⟨z, hz⟩ : ∃ z, z = zgo (sC σ t) 0 zq0 (M + 1) := ⟨_, rfl⟩
  obtain ⟨y, hy⟩ : ∃ y, y = zgo (sC σ t) 0 zq0 M := ⟨_, rfl⟩
  have hzy : z = zgoS (sC σ t) M y := by rw [hz, hy]; show zgoS (sC σ t) (0 + M) _ = _; rw [Nat.zero_add]
  have hz2 : zgo (sC σ t) 0 zq0 (M + 1 + 1) = zgoS (sC σ t) (M + 1) z := by rw [hz]; show zgoS (sC σ t) (0 + (M + 1)) _ = _; rw [Nat.zero_add]
  have q0 : (z.2.1) ≠ 0 := by rw [hz]; exact q0
  have b0 : (z.2.2.1) ≠ 0 := by rw [hz]; exact b0
  have core := znest_core (X := z.2.2.2 * m * (sV σ t - sU σ t)) (W := z.2.1 * z.2.2.1 * n * (sV σ t - sU σ t)) (s := zpval (sC σ t) 1 (M + 1) * zpval (sC σ t) 3 (M + 1)) (R := zadd (sC σ t) (M + 1) z * m * (sV σ t - sU σ t)) (K := ((zadd (sC σ t) M y * m * sU σ t).natAbs : Int)) (K' := ((zadd (sC σ t) (M + 1) z * m * sU σ t).natAbs : Int))
    (Int.mul_ne_zero (Int.mul_ne_zero (Int.mul_ne_zero q0 b0) (by omega)) (by omega)) (Int.mul_ne_zero hq hbb) ?_
  · unfold zplh
    dsimp only
    rw [Nat.add_sub_cancel, Nat.add_sub_cancel, ← hz, ← hy, hz2]
    unfold zgoS
    dsimp only
    have e1 : z.2.1 * zpval (sC σ t) 1 (M + 1) * (z.2.2.1 * zpval (sC σ t) 3 (M + 1)) * n * (sV σ t - sU σ t) = z.2.1 * z.2.2.1 * n * (sV σ t - sU σ t) * (zpval (sC σ t) 1 (M + 1) * zpval (sC σ t) 3 (M + 1)) := by grind
    have e2 : (z.2.2.2 * zpval (sC σ t) 1 (M + 1) * zpval (sC σ t) 3 (M + 1) + zadd (sC σ t) (M + 1) z) * m * (sV σ t - sU σ t) = z.2.2.2 * m * (sV σ t - sU σ t) * (zpval (sC σ t) 1 (M + 1) * zpval (sC σ t) 3 (M + 1)) + zadd (sC σ t) (M + 1) z * m * (sV σ t - sU σ t) := by grind
    rw [e1, e2]
    exact core
  · have z1 : z.1 = y.1 * zpval (sC σ t) 0 M := by rw [hzy]; rfl
    have z3 : z.2.2.1 = y.2.2.1 * zpval (sC σ t) 3 M := by rw [hzy]; rfl
    have e1 : zadd (sC σ t) (M + 1) z = (y.1 * y.2.2.1 * zpval (sC σ t) 0 M) * (zpval (sC σ t) 3 M * (zpval (sC σ t) 0 (M + 1) * zpval (sC σ t) 2 (M + 1))) := by unfold zadd; rw [z1, z3]; grind
    have e2 : zadd (sC σ t) M y = (y.1 * y.2.2.1 * zpval (sC σ t) 0 M) * zpval (sC σ t) 2 M := rfl
    rw [e1, e2]
    rw [zabs_mul (zpval (sC σ t) 2 M), zabs_mul (zpval (sC σ t) 3 M)] at hst
    simp only [zabs_mul] at hst ⊢
    rw [show ((sV σ t - sU σ t).natAbs : Int) = sV σ t - sU σ t by omega, show ((sU σ t).natAbs : Int) = sU σ t by omega]
    rw [show ((sV σ t).natAbs : Int) = sV σ t by omega, show ((sU σ t).natAbs : Int) = sU σ t by omega] at hst
    have h0 : 0 ≤ (y.1.natAbs : Int) * (y.2.2.1.natAbs : Int) * ((zpval (sC σ t) 0 M).natAbs : Int) * (m.natAbs : Int) := Int.mul_nonneg (Int.mul_nonneg (Int.mul_nonneg (by omega) (by omega)) (by omega)) (by omega)
    have h1 := Int.mul_le_mul_of_nonneg_left (Int.not_lt.mp hst) h0
    generalize (y.1.natAbs : Int) * (y.2.2.1.natAbs : Int) * ((zpval (sC σ t) 0 M).natAbs : Int) = g at *
    generalize ((zpval (sC σ t) 3 M).natAbs : Int) = b1 at *
    generalize ((zpval (sC σ t) 0 (M + 1)).natAbs : Int) = b2 at *
    generalize ((zpval (sC σ t) 2 (M + 1)).natAbs : Int) = b3 at *
    generalize ((zpval (sC σ t) 2 M).natAbs : Int) = b4 at *
    generalize ((zpval (sC σ t) 1 (M + 1)).natAbs : Int) = b5 at *
    generalize ((zpval (sC σ t) 3 (M + 1)).natAbs : Int) = b6 at *
    generalize (m.natAbs : Int) = b7 at *
    have e3 : g * (b1 * (b2 * b3)) * b7 * (sV σ t - sU σ t) + g * (b1 * (b2 * b3)) * b7 * sU σ t = g * b7 * (b2 * b3 * (b1 * sV σ t)) := by grind
    have e4 : g * b4 * b7 * sU σ t * (b5 * b6) = g * b7 * (b5 * b6 * (b4 * sU σ t)) := by grind
    rw [e3, e4]
    exact h1
theorem zlh_nest {σ : zSt} {ps : Nat → zPt} {N : Nat} (hN : 1 ≤ N) : ∀ n, (∀ j, j < n → zbnd (sU σ (ps j).1) (sV σ (ps j).1) ∧ zptok (ps j) ∧ zfl σ (ps j).1 0 0 (N + 1) = -6) → znest (zlh σ ps N n) (zlh σ ps (N + 1) n)
  | 0, _ => ⟨Int.le_refl _, Int.le_refl _⟩
  | n + 1, h => by
    have ih := zlh_nest hN n (fun j hj => h j (by omega))
    obtain ⟨g1, g2, g3⟩ := h n (by omega)
    have hp := zpart_nest g1 g2 hN g3
    have d1 := (zlh_ok (σ := σ) (ps := ps) (N := N) n (fun j hj => by
      obtain ⟨w1, w2, w3⟩ := h j (by omega)
      exact ⟨w1, w2, zfl_mono w3 (by omega)⟩)).1
    have d2 := (zlh_ok (σ := σ) (ps := ps) (N := N + 1) n (fun j hj => h j (by omega))).1
    have d3 := (zplh_ok g1 g2 (zfl_mono g3 (by omega : N ≤ N + 1))).1
    have d4 := (zplh_ok g1 g2 g3).1
    exact znest_add d1 d2 d3 d4 ih hp
/-- floors -/
theorem zfloor_mono {x y D D' : Int} (hD : 0 < D) (hD' : 0 < D') (h : x * D' ≤ y * D) : x / D ≤ y / D' := by
  rw [Int.le_ediv_iff_mul_le hD']
  have h1 : x / D * D ≤ x := Int.ediv_mul_le x (by omega)
  have h2 := Int.mul_le_mul_of_nonneg_right h1 (Int.le_of_lt hD')
  have h3 : x / D * D' * D ≤ y * D := by
    have e : x / D * D' * D = x / D * D * D' := by grind
    omega
  exact Int.le_of_mul_le_mul_right h3 hD
/-- floors of two alike up to the k-th figure -/
def zfloors (l g D b : Int) (n : Nat) : Prop := ∀ k, k ≤ n → l * b ^ k / D = g * b ^ k / D
theorem zfloor_s {x D b : Int} (hD : 0 < D) (hb : 2 ≤ b) (k : Nat) : x * b ^ (k + 1) / D = x * b ^ k / D * b + zfg x D b k := by
  unfold zfg
  have e : x * b ^ (k + 1) / D / b = x * b ^ k / D := by
    rw [Int.ediv_ediv_of_nonneg (by omega), Int.pow_succ, ← Int.mul_assoc, Int.mul_comm D b, Int.mul_comm (x * b ^ k) b, Int.mul_ediv_mul_of_pos _ _ (by omega)]
  have h := Int.mul_ediv_add_emod (x * b ^ (k + 1) / D) b
  rw [e] at h
  rw [Int.mul_comm (x * b ^ k / D) b]
  omega
theorem zfloors_iff {l g D b : Int} {n : Nat} (hD : 0 < D) (hb : 2 ≤ b) : zfloors l g D b n ↔ l / D = g / D ∧ ∀ k, k < n → zfg l D b k = zfg g D b k := by
  constructor
  · intro h
    refine ⟨by have := h 0 (by omega); simpa using this, fun k hk => ?_⟩
    have h1 := h k (by omega)
    have h2 := h (k + 1) (by omega)
    rw [zfloor_s hD hb, zfloor_s hD hb, h1] at h2
    omega
  · rintro ⟨h0, h⟩ k hk
    induction k with
    | zero => simpa using h0
    | succ k ih => rw [zfloor_s hD hb, zfloor_s hD hb, ih (by omega), h k (by omega)]
theorem zfloors_nest {l g l' g' D D' b : Int} {n : Nat} (hD : 0 < D) (hD' : 0 < D') (hb : 2 ≤ b) (h1 : l * D' ≤ l' * D) (h2 : l' ≤ g') (h3 : g' * D ≤ g * D') (h : zfloors l g D b n) : zfloors l' g' D' b n := fun k hk => by
  have hp := zpow_pos (b := b) (by omega) k
  have w1 : l * b ^ k / D ≤ l' * b ^ k / D' := by
    refine zfloor_mono hD hD' ?_
    have e1 : l * b ^ k * D' = l * D' * b ^ k := by grind
    have e2 : l' * b ^ k * D = l' * D * b ^ k := by grind
    rw [e1, e2]
    exact Int.mul_le_mul_of_nonneg_right h1 (by omega)
  have w2 : g' * b ^ k / D' ≤ g * b ^ k / D := by
    refine zfloor_mono hD' hD ?_
    have e1 : g' * b ^ k * D = g' * D * b ^ k := by grind
    have e2 : g * b ^ k * D' = g * D' * b ^ k := by grind
    rw [e1, e2]
    exact Int.mul_le_mul_of_nonneg_right h3 (by omega)
  have w3 : l' * b ^ k / D' ≤ g' * b ^ k / D' := Int.ediv_le_ediv hD' (Int.mul_le_mul_of_nonneg_right h2 (by omega))
  have := h k hk
  omega
theorem zscf_le {da db : Nat → Int} {n : Nat} : n ≤ zscf da db 0 n ↔ ∀ k, k < n → da k = db k := by
  have h := zscf_same (da := da) (db := db) n 0 (fun i hi => absurd hi (Nat.not_lt_zero i))
  rw [Nat.zero_add] at h
  obtain ⟨h1, h2, h3⟩ := h
  constructor
  · intro g k hk
    exact h2 k (by omega)
  · intro g
    rcases h3 with h3 | h3
    · omega
    · rcases Nat.lt_or_ge (zscf da db 0 n) n with h4 | h4
      · exact absurd (g _ h4) h3
      · exact h4
/-- n figures are sure -/
theorem zrd_sure {L H D b : Int} {n : Nat} (hD : 0 < D) (hb : 2 ≤ b) : (n : Int) ≤ (zrd L H D b n).2.1 ↔ zsgn L H ≠ 0 ∧ zhi L H < D * 4611686018427387904 ∧ zfloors (zlo L H) (zhi L H) D b n := by
  rw [zfloors_iff hD hb]
  unfold zrd
  split
  · rename_i h
    dsimp only
    constructor
    · intro g; omega
    · rintro ⟨g1, g2, g3, -⟩
      rcases h with h | h | h <;> omega
  · rename_i h
    dsimp only
    rw [Int.ofNat_le, zscf_le]
    constructor
    · intro g
      refine ⟨fun e => h (Or.inl e), ?_, ?_, g⟩
      · rcases Int.lt_or_le (zhi L H) (D * 4611686018427387904) with q | q
        · exact q
        · exact absurd (Or.inr (Or.inl q)) h
      · by_cases q : zlo L H / D = zhi L H / D
        · exact q
        · exact absurd (Or.inr (Or.inr q)) h
    · rintro ⟨-, -, -, g⟩
      exact g
theorem zcancel_lt {a c D : Int} (hD : 0 < D) (h : a * D < c * D) : a < c := Int.lt_of_mul_lt_mul_right h (Int.le_of_lt hD)
theorem zrd_mono {x y : Int × Int × Int} {b : Int} {n : Nat} (hx : 0 < x.2.2) (hy : 0 < y.2.2) (hxy : x.1 ≤ x.2.1) (hyy : y.1 ≤ y.2.1) (hb : 2 ≤ b) (hn : znest x y) (h : (n : Int) ≤ (zrd x.1 x.2.1 x.2.2 b n).2.1) : (n : Int) ≤ (zrd y.1 y.2.1 y.2.2 b n).2.1 := by
  rw [zrd_sure hx hb] at h
  rw [zrd_sure hy hb]
  obtain ⟨L, H, D⟩ := x
  obtain ⟨L', H', D'⟩ := y
  obtain ⟨n1, n2⟩ := hn
  dsimp only at *
  obtain ⟨h1, h2, h3⟩ := h
  have up : ∀ a c a' : Int, a' * D ≤ a * D' → a < D * 4611686018427387904 → a' < D' * 4611686018427387904 := fun a c a' g1 g2 => by
    refine zcancel_lt hx ?_
    have := Int.mul_lt_mul_of_pos_right g2 hy
    have e : D * 4611686018427387904 * D' = D' * 4611686018427387904 * D := by grind
    omega
  by_cases hL : 0 < L
  · have hL' : 0 < L' := by
      refine zcancel_lt hx ?_
      have := Int.mul_pos hL hy
      omega
    have e1 : zlo L H = L ∧ zhi L H = H := by unfold zlo zhi; rw [if_pos hL, if_pos hL]; exact ⟨rfl, rfl⟩
    have e2 : zlo L' H' = L' ∧ zhi L' H' = H' ∧ zsgn L' H' = 1 := by unfold zlo zhi zsgn; rw [if_pos hL', if_pos hL', if_pos hL']; exact ⟨rfl, rfl, rfl⟩
    rw [e1.1, e1.2] at h3
    rw [e1.2] at h2
    rw [e2.1, e2.2.1, e2.2.2]
    exact ⟨by omega, up H 0 H' n2 h2, zfloors_nest hx hy hb n1 hyy n2 h3⟩
  · have hH : H < 0 := by
      unfold zsgn at h1
      rw [if_neg hL] at h1
      by_cases g : H < 0
      · exact g
      · rw [if_neg g] at h1; exact absurd rfl h1
    have hH' : H' < 0 := by
      refine zcancel_lt hx ?_
      have := Int.mul_neg_of_neg_of_pos hH hy
      omega
    have e1 : zlo L H = -H ∧ zhi L H = -L := by unfold zlo zhi; rw [if_neg hL, if_neg hL]; exact ⟨rfl, rfl⟩
    have e2 : zlo L' H' = -H' ∧ zhi L' H' = -L' ∧ zsgn L' H' = -1 := by unfold zlo zhi zsgn; rw [if_neg (by omega), if_neg (by omega), if_neg (by omega), if_pos hH']; exact ⟨rfl, rfl, rfl⟩
    rw [e1.1, e1.2] at h3
    rw [e1.2] at h2
    rw [e2.1, e2.2.1, e2.2.2]
    refine ⟨by omega, up (-L) 0 (-L') (by rw [Int.neg_mul, Int.neg_mul]; omega) h2, zfloors_nest hx hy hb (by rw [Int.neg_mul, Int.neg_mul]; omega) (by omega) (by rw [Int.neg_mul, Int.neg_mul]; omega) h3⟩
abbrev zsok (σ : zSt) (k : Nat) (b : Int) (n N : Nat) : Prop := (n : Int) ≤ (ztl σ k b n N).2.1
theorem zsok_s {σ : zSt} {k N n : Nat} {b : Int} (ho : zStok σ) (hk : k < 4) (hN : 1 ≤ N) (hf : zfc σ k (N + 1) = -6) (hb : 2 ≤ b ∧ b ≤ 36) (hn : n ≤ 100) (h : zsok σ k b n N) : zsok σ k b n (N + 1) := by
  have d1 := (ztl_ok (n := n) (b := b) ho hk (zfc_mono hf (by omega : N ≤ N + 1)) hb hn).1
  have d2 := (ztl_ok (n := n) (b := b) ho hk hf hb hn).1
  refine zrd_mono d1.1 d2.1 d1.2 d2.2 hb.1 (zlh_nest hN _ (fun j hj => ?_)) h
  have hp := (ho.2.2.1 k hk).2 j hj
  exact ⟨(ho.1 _ hp.1).2, hp, (zfp_no _ 0).mp hf j (Nat.zero_le j) (by omega)⟩
theorem zsok_mono {σ : zSt} {k M n : Nat} {b : Int} (ho : zStok σ) (hk : k < 4) (hf : zfc σ k M = -6) (hb : 2 ≤ b ∧ b ≤ 36) (hn : n ≤ 100) {i : Nat} (hi : 1 ≤ i) (h : zsok σ k b n i) : ∀ d, i + d ≤ M → zsok σ k b n (i + d)
  | 0, _ => h
  | d + 1, hd => zsok_s (N := i + d) ho hk (by omega) (zfc_mono hf (by omega)) hb hn (zsok_mono ho hk hf hb hn hi h d (by omega))
theorem znd_at {σ : zSt} {k M n r : Nat} {b : Int} (hM : M ≤ 100) (hf : zfc σ k M = -6) (hr : r ≤ M) (hok : zsok σ k b n r) : ∀ (q N : Nat), N + q = 101 → 1 ≤ N → N ≤ r → (∀ j, N ≤ j → j < r → ¬ zsok σ k b n j) → znd σ k b n N q = (r : Int)
  | 0, N, h, _, h2, _ => absurd h2 (by omega)
  | q + 1, N, h, h1, h2, h3 => by
    unfold znd
    rw [if_neg (not_not_intro (zfc_mono hf (by omega)))]
    by_cases e : N = r
    · subst e
      rw [if_pos hok]
    · rw [if_neg (h3 N (by omega) (by omega))]
      exact znd_at hM hf hr hok q (N + 1) (by omega) (by omega) (by omega) (fun j g1 g2 => h3 j (by omega) g2)
theorem znd_none {σ : zSt} {k M n : Nat} {b : Int} (hM : M ≤ 100) (hf : zfc σ k M = -6) (hf2 : M < 100 → zfc σ k (M + 1) ≠ -6) : ∀ (q N : Nat), N + q = 101 → 1 ≤ N → N ≤ M + 1 → (∀ j, N ≤ j → j ≤ M → ¬ zsok σ k b n j) → znd σ k b n N q = -5
  | 0, N, h, _, h2, _ => rfl
  | q + 1, N, h, h1, h2, h3 => by
    unfold znd
    by_cases e : N = M + 1
    · subst e
      rw [if_pos (hf2 (by omega))]
    · rw [if_neg (not_not_intro (zfc_mono hf (by omega))), if_neg (h3 N (by omega) (by omega))]
      exact znd_none hM hf hf2 q (N + 1) (by omega) (by omega) (by omega) (fun j g1 g2 => h3 j (by omega) g2)

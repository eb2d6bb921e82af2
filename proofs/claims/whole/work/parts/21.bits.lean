/-! magnitudes in bits; a span's numbers, going on -/
def zle (x : Int) (e : Nat) : Prop := x.natAbs ≤ 2 ^ e
theorem zle.mul {x y : Int} {a b : Nat} (h : zle x a) (g : zle y b) : zle (x * y) (a + b) := by
  unfold zle at *
  rw [Int.natAbs_mul, Nat.pow_add]
  exact Nat.mul_le_mul h g
theorem zle.mono {x : Int} {a b : Nat} (h : zle x a) (hab : a ≤ b) : zle x b := Nat.le_trans h (Nat.pow_le_pow_right (by omega) hab)
theorem zle.neg {x : Int} {a : Nat} (h : zle x a) : zle (-x) a := by unfold zle at *; rw [Int.natAbs_neg]; exact h
theorem zle.add {x y : Int} {a : Nat} (h : zle x a) (g : zle y a) : zle (x + y) (a + 1) := by
  unfold zle at *
  rw [Nat.pow_succ]
  omega
theorem zle.lt {x : Int} {e N : Nat} (h : zle x e) (he : e < 30 * N) : (x.natAbs : Int) < 1073741824 ^ N := by
  rw [zB30]
  have h1 : (2 : Nat) ^ e < 2 ^ (30 * N) := Nat.pow_lt_pow_right (by omega) he
  unfold zle at h
  omega
theorem zle_1 : zle 1 0 := by unfold zle; decide
theorem zle_pval {c : Nat → Nat → Int} (hc : zcoef c) {w k : Nat} (hw : w < 4) (hk : k < 100) : zle (zpval c w k) 24 := by
  have h := zpval_bd hc hw hk
  unfold zle
  have : (2 : Nat) ^ 24 = 16777216 := by decide
  omega
theorem zle_mil {x : Int} (h : -1000000 ≤ x ∧ x ≤ 1000000) : zle x 20 := by
  unfold zle
  have : (2 : Nat) ^ 20 = 1048576 := by decide
  omega
/-- P, Q, B, T -/
abbrev zq4 : Type := Int × Int × Int × Int
def zadd (c : Nat → Nat → Int) (k : Nat) (z : zq4) : Int := z.1 * z.2.2.1 * zpval c 0 k * zpval c 2 k
def zgoS (c : Nat → Nat → Int) (k : Nat) (z : zq4) : zq4 := (z.1 * zpval c 0 k, z.2.1 * zpval c 1 k, z.2.2.1 * zpval c 3 k, z.2.2.2 * zpval c 1 k * zpval c 3 k + zadd c k z)
def zgo (c : Nat → Nat → Int) (k : Nat) (z : zq4) : Nat → zq4
  | 0 => z
  | n + 1 => zgoS c (k + n) (zgo c k z n)
def zq0 : zq4 := (1, 1, 1, 0)
/-- the numbers of a span of n terms -/
def zok (n : Nat) (z : zq4) : Prop := zle z.1 (24 * n) ∧ zle z.2.1 (24 * n) ∧ zle z.2.2.1 (24 * n) ∧ z.2.2.2.natAbs ≤ n * 2 ^ (48 * n)
theorem zok_0 : zok 0 zq0 := ⟨by unfold zle zq0; decide, by unfold zle zq0; decide, by unfold zle zq0; decide, by unfold zq0; decide⟩
theorem zadd_le {c : Nat → Nat → Int} (hc : zcoef c) {n k : Nat} {z : zq4} (h : zok n z) (hk : k < 100) : zle (zadd c k z) (48 * n + 48) := by
  have h1 := ((h.1.mul h.2.2.1).mul (zle_pval hc (w := 0) (by omega) hk)).mul (zle_pval hc (w := 2) (by omega) hk)
  exact h1.mono (by omega)
theorem zok_step {c : Nat → Nat → Int} (hc : zcoef c) {n k : Nat} {z : zq4} (h : zok n z) (hk : k < 100) : zok (n + 1) (zgoS c k z) := by
  refine ⟨(h.1.mul (zle_pval hc (w := 0) (by omega) hk)).mono (by omega), (h.2.1.mul (zle_pval hc (w := 1) (by omega) hk)).mono (by omega), (h.2.2.1.mul (zle_pval hc (w := 3) (by omega) hk)).mono (by omega), ?_⟩
  have h1 := zadd_le hc h hk
  have h2 := (zle_pval hc (w := 1) (by omega) hk).mul (zle_pval hc (w := 3) (by omega) hk)
  unfold zle at h1 h2
  show (z.2.2.2 * zpval c 1 k * zpval c 3 k + zadd c k z).natAbs ≤ _
  have e1 : 48 * (n + 1) = 48 * n + 48 := by omega
  have h3 : (z.2.2.2 * zpval c 1 k * zpval c 3 k).natAbs ≤ n * 2 ^ (48 * n) * 2 ^ 48 := by
    rw [Int.mul_assoc, Int.natAbs_mul]
    exact Nat.mul_le_mul h.2.2.2 h2
  have h4 := Int.natAbs_add_le (z.2.2.2 * zpval c 1 k * zpval c 3 k) (zadd c k z)
  rw [e1, Nat.add_mul, Nat.one_mul]
  rw [Nat.pow_add] at h1 ⊢
  rw [← Nat.mul_assoc]
  omega
theorem zok_go {c : Nat → Nat → Int} (hc : zcoef c) {n k : Nat} {z : zq4} (h : zok n z) : ∀ {d : Nat}, k + d ≤ 100 → zok (n + d) (zgo c k z d)
  | 0, _ => h
  | d + 1, hk => zok_step hc (zok_go hc h (by omega)) (by omega)
theorem zok.t {n : Nat} {z : zq4} (h : zok n z) (hn : n ≤ 100) : zle z.2.2.2 (48 * n + 7) := by
  unfold zle
  rw [Nat.pow_add]
  have h1 : n * 2 ^ (48 * n) ≤ 2 ^ (48 * n) * 2 ^ 7 := by
    rw [Nat.mul_comm]
    exact Nat.mul_le_mul_left _ (by omega)
  have := h.2.2.2
  omega
/-- two spans together -/
def zjoin (x y : zq4) : zq4 := (x.1 * y.1, x.2.1 * y.2.1, x.2.2.1 * y.2.2.1, x.2.2.2 * (y.2.1 * y.2.2.1) + y.2.2.2 * (x.1 * x.2.2.1))
theorem zok_join {n k : Nat} {x y : zq4} (h : zok n x) (g : zok k y) : zok (n + k) (zjoin x y) := by
  refine ⟨(h.1.mul g.1).mono (by omega), (h.2.1.mul g.2.1).mono (by omega), (h.2.2.1.mul g.2.2.1).mono (by omega), ?_⟩
  have h1 := g.2.1.mul g.2.2.1
  have h2 := h.1.mul h.2.2.1
  unfold zle at h1 h2
  show (x.2.2.2 * (y.2.1 * y.2.2.1) + y.2.2.2 * (x.1 * x.2.2.1)).natAbs ≤ _
  have e1 : 24 * k + 24 * k = 48 * k := by omega
  have e2 : 24 * n + 24 * n = 48 * n := by omega
  rw [e1] at h1
  rw [e2] at h2
  have h3 : (x.2.2.2 * (y.2.1 * y.2.2.1)).natAbs ≤ n * 2 ^ (48 * n) * 2 ^ (48 * k) := by
    rw [Int.natAbs_mul]; exact Nat.mul_le_mul h.2.2.2 h1
  have h4 : (y.2.2.2 * (x.1 * x.2.2.1)).natAbs ≤ k * 2 ^ (48 * k) * 2 ^ (48 * n) := by
    rw [Int.natAbs_mul]; exact Nat.mul_le_mul g.2.2.2 h2
  have h5 := Int.natAbs_add_le (x.2.2.2 * (y.2.1 * y.2.2.1)) (y.2.2.2 * (x.1 * x.2.2.1))
  have e3 : (n + k) * 2 ^ (48 * (n + k)) = n * 2 ^ (48 * n) * 2 ^ (48 * k) + k * 2 ^ (48 * k) * 2 ^ (48 * n) := by
    rw [Nat.mul_add 48, Nat.pow_add]
    generalize 2 ^ (48 * n) = a
    generalize 2 ^ (48 * k) = b
    grind
  omega

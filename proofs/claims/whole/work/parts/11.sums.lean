/-! sums of digits upon a base -/
def zsum (b : Int) (f : Nat → Int) : Nat → Int
  | 0 => 0
  | n + 1 => zsum b f n + f n * b ^ n
theorem zsum_0 (b : Int) (f : Nat → Int) : zsum b f 0 = 0 := rfl
theorem zsum_s (b : Int) (f : Nat → Int) (n : Nat) : zsum b f (n + 1) = zsum b f n + f n * b ^ n := rfl
theorem zsum_congr {b : Int} {f g : Nat → Int} : ∀ {n : Nat}, (∀ i, i < n → f i = g i) → zsum b f n = zsum b g n
  | 0, _ => rfl
  | n + 1, h => by rw [zsum_s, zsum_s, zsum_congr (fun i hi => h i (by omega)), h n (by omega)]
theorem zpow_pos {b : Int} (hb : 0 < b) (n : Nat) : 0 < b ^ n := Int.pow_pos hb
theorem zsum_nonneg {b : Int} (hb : 0 < b) {f : Nat → Int} : ∀ {n : Nat}, (∀ i, i < n → 0 ≤ f i) → 0 ≤ zsum b f n
  | 0, _ => Int.le_refl _
  | n + 1, h => by
    rw [zsum_s]
    have h1 := zsum_nonneg hb (fun i (hi : i < n) => h i (by omega))
    have h2 := Int.mul_nonneg (h n (by omega)) (Int.le_of_lt (zpow_pos hb n))
    omega
theorem zsum_lt {b : Int} (hb : 0 < b) {f : Nat → Int} : ∀ {n : Nat}, (∀ i, i < n → 0 ≤ f i ∧ f i < b) → zsum b f n < b ^ n
  | 0, _ => by rw [zsum_0, Int.pow_zero]; omega
  | n + 1, h => by
    rw [zsum_s, Int.pow_succ]
    have h1 := zsum_lt hb (fun i (hi : i < n) => h i (by omega))
    have h2 := h n (by omega)
    have hp := zpow_pos hb n
    have h3 : f n * b ^ n ≤ (b - 1) * b ^ n := Int.mul_le_mul_of_nonneg_right (by omega) (by omega)
    have h4 : (b - 1) * b ^ n = b ^ n * b - b ^ n := by grind
    omega
theorem zsum_top {b : Int} (hb : 0 < b) {f : Nat → Int} {n : Nat} (h : ∀ i, i < n + 1 → 0 ≤ f i) (ht : f n ≠ 0) : b ^ n ≤ zsum b f (n + 1) := by
  rw [zsum_s]
  have h1 := zsum_nonneg hb (fun i (hi : i < n) => h i (by omega))
  have hp := zpow_pos hb n
  have h2 := h n (by omega)
  have h3 : 1 * b ^ n ≤ f n * b ^ n := Int.mul_le_mul_of_nonneg_right (by omega) (by omega)
  omega
theorem zsum_zero {b : Int} {f : Nat → Int} : ∀ {n : Nat}, (∀ i, i < n → f i = 0) → zsum b f n = 0
  | 0, _ => rfl
  | n + 1, h => by rw [zsum_s, zsum_zero (fun i hi => h i (by omega)), h n (by omega)]; simp
/-- zeros above change nothing -/
theorem zsum_ext {b : Int} {f : Nat → Int} {n : Nat} : ∀ (k : Nat), (∀ i, n ≤ i → i < n + k → f i = 0) → zsum b f (n + k) = zsum b f n
  | 0, _ => rfl
  | k + 1, h => by
    rw [← Nat.add_assoc, zsum_s, zsum_ext k (fun i h1 h2 => h i h1 (by omega)), h (n + k) (by omega) (by omega)]
    simp
theorem zsum_add {b : Int} {f : Nat → Int} (n : Nat) : ∀ k : Nat, zsum b f (n + k) = zsum b f n + b ^ n * zsum b (fun i => f (n + i)) k
  | 0 => by simp [zsum]
  | k + 1 => by
    rw [← Nat.add_assoc, zsum_s, zsum_s, zsum_add n k, Int.pow_add]
    grind
theorem zsum_mono {b : Int} (hb : 0 < b) {f : Nat → Int} {n k : Nat} (hnk : n ≤ k) (h : ∀ i, i < k → 0 ≤ f i) : zsum b f n ≤ zsum b f k := by
  obtain ⟨d, rfl⟩ := Nat.exists_eq_add_of_le hnk
  rw [zsum_add]
  have h1 := zsum_nonneg hb (f := fun i => f (n + i)) (n := d) (fun i hi => h (n + i) (by omega))
  have h2 := Int.mul_nonneg (Int.le_of_lt (zpow_pos hb n)) h1
  omega
/-- a number of n + 1 digits, the highest not 0, is greater than each of fewer digits -/
theorem zsum_len {b : Int} (hb : 1 < b) {f g : Nat → Int} {n k : Nat} (hf : ∀ i, i < n → 0 ≤ f i ∧ f i < b) (hg : ∀ i, i < k → 0 ≤ g i ∧ g i < b) (hnk : n < k) (ht : g (k - 1) ≠ 0) : zsum b f n < zsum b g k := by
  have h1 := zsum_lt (by omega : 0 < b) hf
  obtain ⟨d, rfl⟩ : ∃ d, k = d + 1 := ⟨k - 1, by omega⟩
  have h2 := zsum_top (b := b) (by omega) (fun i hi => (hg i hi).1) ht
  have h3 : b ^ n ≤ b ^ d := by
    obtain ⟨e, rfl⟩ := Nat.exists_eq_add_of_le (by omega : n ≤ d)
    rw [Int.pow_add]
    have := zpow_pos (by omega : 0 < b) n
    have h4 := zpow_pos (by omega : 0 < b) e
    have : b ^ n * 1 ≤ b ^ n * b ^ e := Int.mul_le_mul_of_nonneg_left (by omega) (by omega)
    omega
  omega
/-- the highest place where two differ decides -/
theorem zsum_cmp {b : Int} (hb : 0 < b) {f g : Nat → Int} {n i : Nat} (hf : ∀ j, j < n → 0 ≤ f j ∧ f j < b) (hg : ∀ j, j < n → 0 ≤ g j ∧ g j < b) (hi : i < n) (he : ∀ j, i < j → j < n → f j = g j) (hlt : f i < g i) : zsum b f n < zsum b g n := by
  obtain ⟨d, rfl⟩ := Nat.exists_eq_add_of_le (by omega : i + 1 ≤ n)
  rw [zsum_add (i + 1) d, zsum_add (i + 1) d, zsum_s, zsum_s]
  have e1 : zsum b (fun j => f (i + 1 + j)) d = zsum b (fun j => g (i + 1 + j)) d := zsum_congr (fun j hj => he _ (by omega) (by omega))
  rw [e1]
  have h1 := zsum_lt hb (fun j (hj : j < i) => hf j (by omega))
  have h2 := zsum_nonneg hb (fun j (hj : j < i) => (hg j (by omega)).1)
  have hp := zpow_pos hb i
  have h3 : (f i + 1) * b ^ i ≤ g i * b ^ i := Int.mul_le_mul_of_nonneg_right (by omega) (by omega)
  have h4 : (f i + 1) * b ^ i = f i * b ^ i + b ^ i := by grind
  omega
theorem zsum_inj {b : Int} (hb : 0 < b) {f g : Nat → Int} : ∀ {n : Nat}, (∀ j, j < n → 0 ≤ f j ∧ f j < b) → (∀ j, j < n → 0 ≤ g j ∧ g j < b) → zsum b f n = zsum b g n → ∀ j, j < n → f j = g j
  | 0, _, _, _, j, hj => by omega
  | n + 1, hf, hg, h, j, hj => by
    rcases Int.lt_trichotomy (f n) (g n) with hl | hl | hl
    · have := zsum_cmp hb hf hg (Nat.lt_succ_self n) (fun j h1 h2 => by omega) hl
      omega
    · rw [zsum_s, zsum_s, hl] at h
      have h2 : zsum b f n = zsum b g n := by omega
      by_cases hjn : j = n
      · subst hjn; exact hl
      · exact zsum_inj hb (fun j hj => hf j (by omega)) (fun j hj => hg j (by omega)) h2 j (by omega)
    · have := zsum_cmp hb hg hf (Nat.lt_succ_self n) (fun j h1 h2 => by omega) hl
      omega
/-- one step of a multiplication by a small number -/
theorem zstep_mul {S S0 c c' P l d by' b : Int} (h1 : S + c * P = S0 * by') (h2 : l * by' + c = d + c' * b) : S + d * P + c' * (P * b) = (S0 + l * P) * by' := by grind

/-! Big: bitLength, modulo, sixteenBits -/
def zisbits (v : Int) (b : Nat) : Prop := (v = 0 ∧ b = 0) ∨ (1 ≤ b ∧ 2 ^ (b - 1) ≤ v.natAbs ∧ v.natAbs < 2 ^ b)
theorem zisbits_unique {v : Int} {b c : Nat} (h : zisbits v b) (g : zisbits v c) : b = c := by
  have key : ∀ b c : Nat, 1 ≤ c → v.natAbs < 2 ^ b → 2 ^ (c - 1) ≤ v.natAbs → c ≤ b := by
    intro b c hc h1 h2
    rcases Nat.lt_or_ge b c with h | h
    · have := Nat.pow_le_pow_right (by omega : 0 < 2) (by omega : b ≤ c - 1)
      omega
    · exact h
  rcases h with ⟨h1, h2⟩ | ⟨h1, h2, h3⟩ <;> rcases g with ⟨g1, g2⟩ | ⟨g1, g2, g3⟩
  · omega
  · subst h1
    have := Nat.pow_pos (n := c - 1) (by omega : 0 < 2)
    simp at g2
  · subst g1
    have := Nat.pow_pos (n := b - 1) (by omega : 0 < 2)
    simp at h2
  · have := key b c g1 h3 g2
    have := key c b h1 g3 h2
    omega
theorem zP2 (n : Nat) : (0 : Int) < ((2 ^ n : Nat) : Int) := by have := Nat.pow_pos (n := n) (by omega : 0 < 2); omega
theorem zB30 (n : Nat) : (1073741824 : Int) ^ n = ((2 ^ (30 * n) : Nat) : Int) := by
  rw [Nat.pow_mul]
  exact (Int.natCast_pow _ _).symm
theorem zl_bitLength {E : zCx} {rm : Room} {A : zA} (X : zOK E cX0_bitLength RX0 3 (some .int) rm) {q N n : Nat} {m : zM} (hA : zbigA A q N) (hr : zraw m q N (n + 1)) (ht : m (q + 1) n ≠ 0) {P : Int → zM → Prop} (hQ : zRet E (zpi A P) 0 0) (hP : ∀ b : Nat, b ≤ 29 → ((2 ^ b : Nat) : Int) ≤ m (q + 1) n → m (q + 1) n < ((2 ^ (b + 1) : Nat) : Int) → P (30 * n + b + 1) m) : ∀ (b : Nat), b ≤ 29 → m (q + 1) n < ((2 ^ (b + 1) : Nat) : Int) → zW E (0, 0) A m 20 [some (vr q), some (vi (30 * (n : Int) + (b : Int) + 1)), some (vi (b : Int))] [] := by
  obtain ⟨hA1, hA2, hA3, hN, hN2⟩ := id hA
  obtain ⟨q1, q2, q3⟩ := id hr
  have e5 := q3 n (by omega)
  intro b
  induction b with
  | zero =>
    intro hb hlt
    refine z_iload_n X dX0_bitLength_20 rfl ?_
    refine z_if_le X dX0_bitLength_21 49 (by decide) (by omega) (fun h21 => ?_) (fun h21 => ?_)
    · refine z_iload_n X dX0_bitLength_49 rfl ?_
      refine z_ireturn (st := []) X rfl hQ dX0_bitLength_50 ⟨rfl, _, rfl, ?_⟩
      exact hP 0 (by omega) (by simp; omega) hlt
    · exact absurd h21 (by omega)
  | succ b ih =>
    intro hb hlt
    refine z_iload_n X dX0_bitLength_20 rfl ?_
    refine z_if_le X dX0_bitLength_21 49 (by decide) (by omega) (fun h21 => ?_) (fun h21 => ?_)
    · exact absurd h21 (by omega)
    · refine z_aload_n X dX0_bitLength_24 rfl ?_
      refine z_getR X dX0_bitLength_25 f_X0_9 rfl (by assumption) (by assumption) ?_
      refine z_aload_n X dX0_bitLength_28 rfl ?_
      refine z_getI X dX0_bitLength_29 f_X0_15 rfl (by assumption) ?_
      refine z_iconst X dX0_bitLength_32 ?_
      refine z_isub X dX0_bitLength_33 ?_
      refine z_iald X (n) dX0_bitLength_34 (by omega) (by assumption) (by omega) (by omega) ?_
      refine z_iload_n X dX0_bitLength_35 rfl ?_
      refine z_ishr X dX0_bitLength_36 (b + 1) (((2 ^ (b + 1) : Nat) : Int)) (by omega) (by omega) rfl (by omega) ?_
      have hp : (0 : Int) < ((2 ^ (b + 1) : Nat) : Int) := zP2 (b + 1)
      have hd0 : 0 ≤ m (q + 1) n / ((2 ^ (b + 1) : Nat) : Int) := Int.ediv_nonneg e5.1 (by omega)
      have hd1 := Int.ediv_le_self ((2 ^ (b + 1) : Nat) : Int) e5.1
      refine z_if_ne X dX0_bitLength_37 49 (by decide) (by omega) (fun h37 => ?_) (fun h37 => ?_)
      · refine z_iload_n X dX0_bitLength_49 rfl ?_
        refine z_ireturn (st := []) X rfl hQ dX0_bitLength_50 ⟨rfl, _, rfl, ?_⟩
        refine hP (b + 1) hb ?_ hlt
        by_cases h : m (q + 1) n < ((2 ^ (b + 1) : Nat) : Int)
        · exact absurd (Int.ediv_eq_zero_of_lt e5.1 h) h37
        · omega
      · refine z_iinc X dX0_bitLength_40 rfl (fun y => [_, some (vi y), _]) (fun _ => rfl) (fun x1_40 hx1_40 => ?_)
        refine z_iinc X dX0_bitLength_43 rfl (fun y => [_, _, some (vi y)]) (fun _ => rfl) (fun x2_43 hx2_43 => ?_)
        obtain rfl : x1_40 = 30 * (n : Int) + (b : Int) + 1 := by omega
        obtain rfl : x2_43 = (b : Int) := by omega
        refine z_goto X dX0_bitLength_46 20 (by decide) ?_
        refine ih (by omega) ?_
        by_cases h : m (q + 1) n < ((2 ^ (b + 1) : Nat) : Int)
        · exact h
        · have := Int.le_ediv_of_mul_le (c := ((2 ^ (b + 1) : Nat) : Int)) (a := 1) (b := m (q + 1) n) hp (by omega)
          omega
theorem c_X0_bitLength (G : zG) {A : zA} {m : zM} {q N : Nat} {v : Int} (hA : zbigA A q N) (hb : zbi m q N v) : zMet G k_X0_bitLength [vr q] A m (zpi A (fun r m' => m = m' ∧ ∃ b : Nat, r = (b : Int) ∧ zisbits v b)) := by
  obtain ⟨hA1, hA2, hA3, hN, hN2⟩ := id hA
  obtain ⟨n, hr, ht, hv, hs⟩ := hb.abs
  obtain ⟨q1, q2, q3⟩ := id hr
  refine zMet.of RX0 rfl (by decide +kernel) (Nat.le_of_ble_eq_true rfl) [some (vr q), none, none] rfl (fun E hG X hQ hNm => ?_)
  subst hG
  refine z_bipush X dX0_bitLength_0 (by decide) ?_
  refine z_aload_n X dX0_bitLength_2 rfl ?_
  refine z_getI X dX0_bitLength_3 f_X0_15 rfl (by assumption) ?_
  refine z_imul X dX0_bitLength_6 ?_
  refine z_istore_n X dX0_bitLength_7 (fun y => [_, some (vi y), _]) (by decide) (fun _ => rfl) (fun x1_7 hx1_7 => ?_)
  refine z_aload_n X dX0_bitLength_8 rfl ?_
  refine z_getI X dX0_bitLength_9 f_X0_15 rfl (by assumption) ?_
  refine z_if_ne X dX0_bitLength_12 17 (by decide) (by omega) (fun h12 => ?_) (fun h12 => ?_)
  · refine z_bipush X dX0_bitLength_17 (by decide) ?_
    refine z_istore_n X dX0_bitLength_19 (fun y => [_, _, some (vi y)]) (by decide) (fun _ => rfl) (fun x2_19 hx2_19 => ?_)
    subst hx2_19
    obtain ⟨d, rfl⟩ : ∃ d, n = d + 1 := ⟨n - 1, by omega⟩
    obtain rfl : x1_7 = 30 * (d : Int) + ((29 : Nat) : Int) + 1 := by omega
    have e5 := q3 d (by omega)
    have hp := zP2 (30 * d)
    refine zl_bitLength X hA hr (ht (by omega)) hQ (fun b hb29 h1 h2 => ⟨rfl, 30 * d + b + 1, by omega, Or.inr ⟨by omega, ?_, ?_⟩⟩) 29 (by omega) (by simp; omega)
    · rw [zsum_s, zB30] at hv
      have g1 := zsum_nonneg (b := 1073741824) (n := d) (by omega) (fun i hi => (q3 i (by omega)).1)
      have g2 : ((2 ^ b : Nat) : Int) * ((2 ^ (30 * d) : Nat) : Int) ≤ m (q + 1) d * ((2 ^ (30 * d) : Nat) : Int) := Int.mul_le_mul_of_nonneg_right h1 (by omega)
      rw [← Int.natCast_mul, ← Nat.pow_add, Nat.add_comm b] at g2
      have : 30 * d + b + 1 - 1 = 30 * d + b := by omega
      rw [this]
      omega
    · rw [zsum_s, zB30] at hv
      have g1 := zsum_lt (b := 1073741824) (n := d) (by omega) (fun i hi => q3 i (by omega))
      rw [zB30] at g1
      have g2 : (m (q + 1) d + 1) * ((2 ^ (30 * d) : Nat) : Int) ≤ ((2 ^ (b + 1) : Nat) : Int) * ((2 ^ (30 * d) : Nat) : Int) := Int.mul_le_mul_of_nonneg_right (by omega) (by omega)
      rw [← Int.natCast_mul, ← Nat.pow_add, Int.add_mul, Nat.add_comm (b + 1)] at g2
      have : 30 * d + b + 1 = 30 * d + (b + 1) := by omega
      rw [this]
      omega
  · refine z_iload_n X dX0_bitLength_15 rfl ?_
    refine z_ireturn (st := []) X rfl hQ dX0_bitLength_16 ⟨rfl, _, rfl, ?_⟩
    refine ⟨rfl, 0, by omega, Or.inl ⟨?_, rfl⟩⟩
    have h0 : n = 0 := by omega
    rw [h0, zsum_0] at hv
    omega
/-- the limbs from r on -/
theorem zsum_tail {b : Int} {f : Nat → Int} {n r : Nat} (h : r < n) : zsum b (fun j => f (r + j)) (n - r) = f r + b * zsum b (fun j => f (r + 1 + j)) (n - (r + 1)) := by
  have e : n - r = 1 + (n - (r + 1)) := by omega
  rw [e, zsum_add]
  have e2 : (fun i => (fun j => f (r + j)) (1 + i)) = (fun j => f (r + 1 + j)) := by funext i; show f (r + (1 + i)) = _; rw [Nat.add_assoc]
  rw [e2]
  simp [zsum, Int.pow_succ]
theorem zl_modulo {E : zCx} {rm : Room} {cs : Nat × Nat} {A : zA} (X : zOK E cX0_modulo RX0 5 (some .int) rm) {q N n : Nat} {m : zM} {M : Int} (hA : zbigA A q N) (hr : zraw m q N n) (hM : 1 ≤ M ∧ M ≤ 1000000)
    (K : zW E cs A m 45 [some (vr q), some (vi M), some (vl (zsum 1073741824 (m (q + 1)) n % M)), none, some (vi (-1))] []) : ∀ (r : Nat) (left : Int), r ≤ n → left = zsum 1073741824 (fun j => m (q + 1) (r + j)) (n - r) % M → zW E cs A m 17 [some (vr q), some (vi M), some (vl left), none, some (vi ((r : Int) - 1))] [] := by
  obtain ⟨hA1, hA2, hA3, hN, hN2⟩ := id hA
  obtain ⟨q1, q2, q3⟩ := id hr
  intro r
  induction r with
  | zero =>
    intro left h1 h2
    subst h2
    refine z_iload X dX0_modulo_17 rfl ?_
    refine z_if_lt X dX0_modulo_19 45 (by decide) (by omega) (fun h19 => ?_) (fun h19 => ?_)
    · simp only [Nat.zero_add, Nat.sub_zero]
      exact K
    · exact absurd h19 (by omega)
  | succ r ih =>
    intro left h1 h2
    have e5 := q3 r (by omega)
    have hl0 : 0 ≤ left := by rw [h2]; exact Int.emod_nonneg _ (by omega)
    have hl1 : left < M := by rw [h2]; exact Int.emod_lt_of_pos _ (by omega)
    refine z_iload X dX0_modulo_17 rfl ?_
    refine z_if_lt X dX0_modulo_19 45 (by decide) (by omega) (fun h19 => ?_) (fun h19 => ?_)
    · exact absurd h19 (by omega)
    · refine z_lload_n X dX0_modulo_22 rfl ?_
      refine z_bipush X dX0_modulo_23 (by decide) ?_
      refine z_lshl X dX0_modulo_25 30 1073741824 rfl (by decide) (by decide) ?_
      refine z_aload_n X dX0_modulo_26 rfl ?_
      refine z_getR X dX0_modulo_27 f_X0_9 rfl (by assumption) (by assumption) ?_
      refine z_iload X dX0_modulo_30 rfl ?_
      refine z_iald X (r) dX0_modulo_32 (by omega) (by assumption) (by omega) (by omega) ?_
      refine z_i2l X dX0_modulo_33 (by omega) ?_
      refine z_ladd X dX0_modulo_34 ?_
      refine z_iload_n X dX0_modulo_35 rfl ?_
      refine z_i2l X dX0_modulo_36 (by omega) ?_
      refine z_lrem X dX0_modulo_37 (by omega) (by omega) ?_
      refine z_lstore_n X dX0_modulo_38 (fun y => [_, _, some (vl y), _, _]) (by decide) (fun _ => rfl) (fun l2 hl2 => ?_)
      refine z_iinc X dX0_modulo_39 rfl (fun y => [_, _, _, _, some (vi y)]) (fun _ => rfl) (fun x4_39 hx4_39 => ?_)
      obtain rfl : x4_39 = (r : Int) - 1 := by omega
      refine z_goto X dX0_modulo_42 17 (by decide) ?_
      refine ih l2 (by omega) ?_
      rw [hl2, zsum_tail (by omega), h2, Int.add_emod, Int.mul_emod, Int.emod_emod_of_dvd _ (Int.dvd_refl M)]
      rw [Int.add_comm (m (q + 1) r), Int.add_emod (1073741824 * _), Int.mul_emod 1073741824, Int.mul_comm (1073741824 % M)]
theorem zmod_neg {a M : Int} (hM : 1 ≤ M) : (-a) % M = if 0 < a % M then M - a % M else a % M := by
  have h1 := Int.emod_nonneg a (by omega : M ≠ 0)
  have h2 := Int.emod_lt_of_pos a (by omega : 0 < M)
  have h3 := Int.emod_add_mul_ediv a M
  split
  · have e : -a = (M - a % M) + M * (-(a / M) - 1) := by grind
    rw [e, Int.add_mul_emod_self_left, Int.emod_eq_of_lt (by omega) (by omega)]
  · have e : -a = 0 + M * (-(a / M)) := by have : a % M = 0 := by omega
                                           grind
    rw [e, Int.add_mul_emod_self_left]
    have : a % M = 0 := by omega
    rw [this, Int.zero_emod]
theorem c_X0_modulo (G : zG) {A : zA} {m : zM} {q N : Nat} {v M : Int} (hA : zbigA A q N) (hb : zbi m q N v) (hM : 2 ≤ M ∧ M ≤ 1000000) : zMet G k_X0_modulo [vr q, vi M] A m (zpi A (fun r m' => m = m' ∧ r = v % M)) := by
  obtain ⟨hA1, hA2, hA3, hN, hN2⟩ := id hA
  obtain ⟨n, hr, ht, hv, hs⟩ := hb.abs
  obtain ⟨q1, q2, q3⟩ := id hr
  refine zMet.of RX0 rfl (by decide +kernel) (Nat.le_of_ble_eq_true rfl) [some (vr q), some (vi M), none, none, none] rfl (fun E hG X hQ hNm => ?_)
  subst hG
  refine z_iload_n X dX0_modulo_0 rfl ?_
  refine z_iconst X dX0_modulo_1 ?_
  refine z_icmp_ge X dX0_modulo_2 7 (by decide) (by omega) (by omega) (fun h2 => ?_) (fun h2 => ?_)
  · refine z_lconst X dX0_modulo_7 0 rfl ?_
    refine z_lstore_n X dX0_modulo_8 (fun y => [_, _, some (vl y), _, _]) (by decide) (fun _ => rfl) (fun x2_8 hx2_8 => ?_)
    subst hx2_8
    refine z_aload_n X dX0_modulo_9 rfl ?_
    refine z_getI X dX0_modulo_10 f_X0_15 rfl (by assumption) ?_
    refine z_iconst X dX0_modulo_13 ?_
    refine z_isub X dX0_modulo_14 ?_
    refine z_istore X dX0_modulo_15 (fun y => [_, _, _, _, some (vi y)]) (by decide) (fun _ => rfl) (fun x4_15 hx4_15 => ?_)
    obtain rfl : x4_15 = (n : Int) - 1 := by omega
    refine zl_modulo X hA hr (by omega) ?_ n 0 (by omega) (by simp [zsum])
    have hz := zsum_nonneg (b := 1073741824) (n := n) (by omega) (fun i hi => (q3 i hi).1)
    obtain ⟨w, hw⟩ : ∃ w, w = zsum 1073741824 (m (q + 1)) n := ⟨_, rfl⟩
    rw [← hw] at hv hz ⊢
    have hw0 := Int.emod_nonneg w (by omega : M ≠ 0)
    have hw1 := Int.emod_lt_of_pos w (by omega : 0 < M)
    refine z_aload_n X dX0_modulo_45 rfl ?_
    refine z_getI X dX0_modulo_46 f_X0_19 rfl (by assumption) ?_
    refine z_if_eq X dX0_modulo_49 65 (by decide) (by omega) (fun h49 => ?_) (fun h49 => ?_)
    · refine z_lload_n X dX0_modulo_65 rfl ?_
      refine z_l2i X dX0_modulo_66 ?_
      refine z_ireturn (st := []) X rfl hQ dX0_modulo_67 ⟨rfl, _, rfl, ?_⟩
      refine ⟨rfl, ?_⟩
      rw [show v = w by omega]
    · refine z_lload_n X dX0_modulo_52 rfl ?_
      refine z_lconst X dX0_modulo_53 0 rfl ?_
      refine z_lcmp_le X dX0_modulo_54 dX0_modulo_55 65 (by decide) (by omega) (by omega) (fun h54 => ?_) (fun h54 => ?_)
      · refine z_lload_n X dX0_modulo_65 rfl ?_
        refine z_l2i X dX0_modulo_66 ?_
        refine z_ireturn (st := []) X rfl hQ dX0_modulo_67 ⟨rfl, _, rfl, ?_⟩
        refine ⟨rfl, ?_⟩
        rw [show v = -w by omega, zmod_neg (by omega), if_neg (by omega)]
      · refine z_iload_n X dX0_modulo_58 rfl ?_
        refine z_i2l X dX0_modulo_59 (by omega) ?_
        refine z_lload_n X dX0_modulo_60 rfl ?_
        refine z_lsub X dX0_modulo_61 ?_
        refine z_goto X dX0_modulo_62 66 (by decide) ?_
        refine z_l2i X dX0_modulo_66 ?_
        refine z_ireturn (st := []) X rfl hQ dX0_modulo_67 ⟨rfl, _, rfl, ?_⟩
        refine ⟨rfl, ?_⟩
        rw [show v = -w by omega, zmod_neg (by omega), if_pos (by omega)]
  · exact absurd h2 (by omega)

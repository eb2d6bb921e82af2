/-! ConstantMill: a part is enclosed -/
theorem zpow_le {a b : Nat} (h : a ≤ b) : (2 : Nat) ^ a ≤ 2 ^ b := Nat.pow_le_pow_right (by omega) h
theorem zle.abs {x : Int} {a : Nat} (h : zle x a) : zle (x.natAbs : Int) a := by unfold zle at *; rw [Int.natAbs_natCast]; exact h
theorem zgo_nz {c : Nat → Nat → Int} {u v : Int} {st k : Nat} {z : zq4} (hq : z.2.1 ≠ 0) (hb : z.2.2.1 ≠ 0) : ∀ n, (∀ j, k ≤ j → j < k + n → ¬ zfalls c u v st j) → (zgo c k z n).2.1 ≠ 0 ∧ (zgo c k z n).2.2.1 ≠ 0
  | 0, _ => ⟨hq, hb⟩
  | n + 1, h => by
    obtain ⟨h1, h2⟩ := zgo_nz hq hb n (fun j g1 g2 => h j g1 (by omega))
    have h3 := h (k + n) (by omega) (by omega)
    have h4 : zpval c 1 (k + n) ≠ 0 := fun e => h3 (Or.inl e)
    have h5 : zpval c 3 (k + n) ≠ 0 := fun e => h3 (Or.inr (Or.inl e))
    exact ⟨Int.mul_ne_zero h1 h4, Int.mul_ne_zero h2 h5⟩
theorem zgo_nz0 {σ : zSt} {s N : Nat} (h : zfl σ s 0 0 N = -6) : (zgo (sC σ s) 0 zq0 N).2.1 ≠ 0 ∧ (zgo (sC σ s) 0 zq0 N).2.2.1 ≠ 0 := zgo_nz (by decide) (by decide) N (fun j g1 g2 => (zff_no N 0).mp h j g1 g2)
theorem zplh_ok {σ : zSt} {x : zPt} {N : Nat} (hb : zbnd (sU σ x.1) (sV σ x.1)) (hx : zptok x) (h : zfl σ x.1 0 0 N = -6) : 0 < (zplh σ x N).2.2 ∧ (zplh σ x N).1 ≤ (zplh σ x N).2.1 := by
  obtain ⟨h1, h2⟩ := zgo_nz0 h
  have h3 : (zgo (sC σ x.1) 0 zq0 N).2.1 * (zgo (sC σ x.1) 0 zq0 N).2.2.1 * x.2.2 * (sV σ x.1 - sU σ x.1) ≠ 0 := by
    refine Int.mul_ne_zero (Int.mul_ne_zero (Int.mul_ne_zero h1 h2) ?_) ?_
    · have := hx.2.2.1; omega
    · have := hb.2.1; omega
  unfold zplh
  dsimp only
  constructor
  · omega
  · omega
theorem zlh_ok {σ : zSt} {ps : Nat → zPt} {N : Nat} : ∀ n, (∀ j, j < n → zbnd (sU σ (ps j).1) (sV σ (ps j).1) ∧ zptok (ps j) ∧ zfl σ (ps j).1 0 0 N = -6) → 0 < (zlh σ ps N n).2.2 ∧ (zlh σ ps N n).1 ≤ (zlh σ ps N n).2.1
  | 0, _ => ⟨by unfold zlh; decide, by unfold zlh; decide⟩
  | n + 1, h => by
    obtain ⟨h1, h2⟩ := zlh_ok n (fun j hj => h j (by omega))
    obtain ⟨g1, g2, g3⟩ := h n (by omega)
    obtain ⟨g4, g5⟩ := zplh_ok g1 g2 g3
    unfold zlh
    dsimp only
    refine ⟨Int.mul_pos h1 g4, ?_⟩
    have e1 := Int.mul_le_mul_of_nonneg_right g5 (Int.le_of_lt h1)
    have e2 := Int.mul_le_mul_of_nonneg_right h2 (Int.le_of_lt g4)
    omega

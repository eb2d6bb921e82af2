/-! THE STATE that both sides hold, and what each call answers and leaves: in words of numbers alone -/
abbrev zDr : Type := Nat × Nat × Nat × zq4
abbrev zPt : Type := Nat × Int × Int
abbrev zRv : Type := Int × Int × Nat × Int × (Nat → Int)
abbrev zRs : Type := Option (Int × Int × Int × Int) × zRv
abbrev zSt : Type := (Nat → Nat → Nat → Int) × (Nat → Int) × (Nat → Int) × (Nat → Option zDr) × (Nat → Nat × (Nat → zPt)) × zRs
abbrev sC (σ : zSt) : Nat → Nat → Nat → Int := σ.1
abbrev sU (σ : zSt) : Nat → Int := σ.2.1
abbrev sV (σ : zSt) : Nat → Int := σ.2.2.1
abbrev sD (σ : zSt) : Nat → Option zDr := σ.2.2.2.1
abbrev sK (σ : zSt) : Nat → Nat × (Nat → zPt) := σ.2.2.2.2.1
abbrev sR (σ : zSt) : zRs := σ.2.2.2.2.2
def zup {α : Type} (f : Nat → α) (k : Nat) (v : α) : Nat → α := fun j => if j = k then v else f j
theorem zup_same {α : Type} (f : Nat → α) (k : Nat) (v : α) : zup f k v k = v := by simp [zup]
theorem zup_ne {α : Type} (f : Nat → α) {k j : Nat} (v : α) (h : j ≠ k) : zup f k v j = f j := by simp [zup, h]
def wC (σ : zSt) (x : Nat → Nat → Nat → Int) : zSt := (x, σ.2)
def wUV (σ : zSt) (u v : Nat → Int) : zSt := (σ.1, u, v, σ.2.2.2)
def wD (σ : zSt) (x : Nat → Option zDr) : zSt := (σ.1, σ.2.1, σ.2.2.1, x, σ.2.2.2.2)
def wK (σ : zSt) (x : Nat → Nat × (Nat → zPt)) : zSt := (σ.1, σ.2.1, σ.2.2.1, σ.2.2.2.1, x, σ.2.2.2.2.2)
def wR (σ : zSt) (x : zRs) : zSt := (σ.1, σ.2.1, σ.2.2.1, σ.2.2.2.1, σ.2.2.2.2.1, x)
/-- what may be in a state -/
def zdrok (x : zDr) : Prop := x.1 < 6 ∧ x.2.1 ≤ x.2.2.1 ∧ x.2.2.1 ≤ 100 ∧ zok (x.2.2.1 - x.2.1) x.2.2.2
def zptok (x : zPt) : Prop := x.1 < 6 ∧ (-1000000 ≤ x.2.1 ∧ x.2.1 ≤ 1000000) ∧ 1 ≤ x.2.2 ∧ x.2.2 ≤ 1000000
def zrvok (x : zRv) : Prop := (-1 ≤ x.1 ∧ x.1 ≤ 1) ∧ zsur x.2.1 x.2.2.1 ∧ (0 ≤ x.2.2.2.1 ∧ x.2.2.2.1 < 4611686018427387904) ∧ ∀ j, j < x.2.2.1 → 0 ≤ x.2.2.2.2 j ∧ x.2.2.2.2 j < 36
def zrsok (x : zRs) : Prop := zrvok x.2 ∧ (∀ i, x.1 = some i → (0 ≤ i.1 ∧ i.1 < 4) ∧ (2 ≤ i.2.1 ∧ i.2.1 ≤ 36) ∧ (0 ≤ i.2.2.1 ∧ i.2.2.1 ≤ 100) ∧ 1 ≤ i.2.2.2 ∧ i.2.2.2 ≤ 100) ∧ (x.1 = none → x.2.1 = 0 ∧ x.2.2.1 = -6 ∧ x.2.2.2.1 = 0 ∧ x.2.2.2.2.1 = 0)
def zStok (σ : zSt) : Prop := (∀ s, s < 6 → zcoef (sC σ s) ∧ zbnd (sU σ s) (sV σ s)) ∧ (∀ d x, d < 8 → sD σ d = some x → zdrok x) ∧ (∀ c, c < 4 → (sK σ c).1 ≤ 4 ∧ ∀ i, i < (sK σ c).1 → zptok ((sK σ c).2 i)) ∧ zrsok (sR σ)
/-- drawers of a sum, ahead of the n-th; without them -/
def zdcn (D : Nat → Option zDr) (s : Nat) : Nat → Nat
  | 0 => 0
  | n + 1 => zdcn D s n + match D n with
    | some x => if x.1 = s then 1 else 0
    | none => 0
def zdem (D : Nat → Option zDr) (s : Nat) : Nat → Option zDr := fun d => match D d with
  | some x => if x.1 = s then none else some x
  | none => none
abbrev zin (x lo hi : Int) : Prop := lo ≤ x ∧ x ≤ hi
def sp_rule (σ : zSt) (s w c0 c1 c2 : Int) : Int × zSt :=
  if ¬ zin s 0 5 then (-1, σ)
  else if ¬ zin w 0 3 ∨ ¬ zin c0 (-999) 999 ∨ ¬ zin c1 (-999) 999 ∨ ¬ zin c2 (-999) 999 then (-2, σ)
  else ((zdcn (sD σ) s.toNat 8 : Int), wD (wC σ (zup (sC σ) s.toNat (zup (sC σ s.toNat) w.toNat (fun j => if j = 0 then c0 else if j = 1 then c1 else c2)))) (zdem (sD σ) s.toNat))
def sp_bound (σ : zSt) (s u v : Int) : Int × zSt :=
  if ¬ zin s 0 5 then (-1, σ)
  else if u < 1 ∨ v ≤ u ∨ 1000000 < v then (-2, σ)
  else ((zdcn (sD σ) s.toNat 8 : Int), wD (wUV σ (zup (sU σ) s.toNat u) (zup (sV σ) s.toNat v)) (zdem (sD σ) s.toNat))
def sp_at (σ : zSt) (s w k : Int) : Int :=
  if ¬ zin s 0 5 ∨ ¬ zin w 0 3 then -1000000001 else if ¬ zin k 0 99 then -1000000002 else zpval (sC σ s.toNat) w.toNat k.toNat
def zfl (σ : zSt) (s start k n : Nat) : Int := zff (sC σ s) (sU σ s) (sV σ s) start k n
def sp_falls (σ : zSt) (s n : Int) : Int := if ¬ zin s 0 5 then -1 else if ¬ zin n 0 100 then -2 else zfl σ s.toNat 0 0 n.toNat
def sp_grind (σ : zSt) (d s i j : Int) : Int × zSt :=
  if ¬ zin d 0 7 ∨ ¬ zin s 0 5 then (-1, σ)
  else if i < 0 ∨ j < i ∨ 100 < j then (-2, σ)
  else if zfl σ s.toNat i.toNat i.toNat (j.toNat - i.toNat) ≠ -6 then (-100 - zfl σ s.toNat i.toNat i.toNat (j.toNat - i.toNat), σ)
  else (j - i, wD σ (zup (sD σ) d.toNat (some (s.toNat, i.toNat, j.toNat, zgo (sC σ s.toNat) i.toNat zq0 (j.toNat - i.toNat)))))
def sp_more (σ : zSt) (d n : Int) : Int × zSt :=
  if ¬ zin d 0 7 then (-1, σ)
  else if ¬ zin n 0 100 then (-2, σ)
  else match sD σ d.toNat with
    | none => (-3, σ)
    | some x =>
      if 100 < (x.2.2.1 : Int) + n then (-2, σ)
      else if zfl σ x.1 x.2.1 x.2.2.1 n.toNat = -6 then ((x.2.2.1 : Int) + n, wD σ (zup (sD σ) d.toNat (some (x.1, x.2.1, x.2.2.1 + n.toNat, zgo (sC σ x.1) x.2.2.1 x.2.2.2 n.toNat))))
      else (-100 - zfl σ x.1 x.2.1 x.2.2.1 n.toNat, wD σ (zup (sD σ) d.toNat (some (x.1, x.2.1, (zfl σ x.1 x.2.1 x.2.2.1 n.toNat).toNat, zgo (sC σ x.1) x.2.2.1 x.2.2.2 ((zfl σ x.1 x.2.1 x.2.2.1 n.toNat).toNat - x.2.2.1)))))
def sp_join (σ : zSt) (d e f : Int) : Int × zSt :=
  if ¬ zin d 0 7 ∨ ¬ zin e 0 7 ∨ ¬ zin f 0 7 then (-1, σ)
  else match sD σ d.toNat, sD σ e.toNat with
    | some x, some y =>
      if x.1 ≠ y.1 ∨ x.2.2.1 ≠ y.2.1 then (-5, σ)
      else ((y.2.2.1 : Int) - (x.2.1 : Int), wD σ (zup (sD σ) f.toNat (some (x.1, x.2.1, y.2.2.1, zjoin x.2.2.2 y.2.2.2))))
    | _, _ => (-3, σ)
def sp_empty (σ : zSt) (d : Int) : Int × zSt :=
  if ¬ zin d 0 7 then (-1, σ)
  else match sD σ d.toNat with
    | none => (-3, σ)
    | some (_, i, j, _) => ((j : Int) - (i : Int), wD σ (zup (sD σ) d.toNat none))
def sp_span (σ : zSt) (d w : Int) : Int :=
  if ¬ zin d 0 7 then -1 else if ¬ zin w 0 2 then -2
  else match sD σ d.toNat with
    | none => -3
    | some (s, i, j, _) => if w = 0 then (s : Int) else if w = 1 then (i : Int) else (j : Int)
def znum (z : zq4) (w : Int) : Int := if w = 0 then z.1 else if w = 1 then z.2.1 else if w = 2 then z.2.2.1 else z.2.2.2
/-- a call for a number: what it answers of it, if nothing speaks against it -/
def sp_num (σ : zSt) (d w : Int) (fits : Prop) [Decidable fits] (f : Int → Int) : Int :=
  if ¬ zin d 0 7 then -1 else if ¬ zin w 0 3 ∨ ¬ fits then -2
  else match sD σ d.toNat with
    | none => -3
    | some x => f (znum x.2.2.2 w)
def zbitsf (v : Int) : Nat := if v = 0 then 0 else Nat.log2 v.natAbs + 1
theorem zbitsf_is (v : Int) : zisbits v (zbitsf v) := by
  unfold zbitsf zisbits
  split
  · rename_i h; exact Or.inl ⟨h, rfl⟩
  · rename_i h
    refine Or.inr ⟨by omega, ?_, ?_⟩
    · rw [Nat.add_sub_cancel]; exact Nat.log2_self_le (by omega)
    · exact Nat.lt_log2_self
def sp_bits (σ : zSt) (d w : Int) : Int := sp_num σ d w True (fun v => (zbitsf v : Int))
def sp_sign (σ : zSt) (d w : Int) : Int := sp_num σ d w True (fun v => if v = 0 then 0 else if v < 0 then 2 else 1)
def sp_rest (σ : zSt) (d w M : Int) : Int := sp_num σ d w (zin M 2 1000000) (fun v => v % M)
def sp_word (σ : zSt) (d w k : Int) : Int := sp_num σ d w (0 ≤ k) (fun v => (v.natAbs : Int) / ((2 ^ (16 * k.toNat) : Nat) : Int) % 65536)
def sp_same (σ : zSt) (d e : Int) : Int :=
  if ¬ zin d 0 7 ∨ ¬ zin e 0 7 then -1
  else match sD σ d.toNat, sD σ e.toNat with
    | some x, some y => if x.2.2.2 = y.2.2.2 then 1 else 0
    | _, _ => -3
def sp_part (σ : zSt) (c s m n : Int) : Int × zSt :=
  if ¬ zin c 0 3 ∨ ¬ zin s 0 5 then (-1, σ)
  else if ¬ zin m (-1000000) 1000000 ∨ ¬ zin n 1 1000000 then (-2, σ)
  else if (sK σ c.toNat).1 = 4 then (-4, σ)
  else (((sK σ c.toNat).1 : Int) + 1, wK σ (zup (sK σ) c.toNat ((sK σ c.toNat).1 + 1, zup (sK σ c.toNat).2 (sK σ c.toNat).1 (s.toNat, m, n))))
def sp_clear (σ : zSt) (c : Int) : Int × zSt :=
  if ¬ zin c 0 3 then (-1, σ) else (((sK σ c.toNat).1 : Int), wK σ (zup (sK σ) c.toNat (0, (sK σ c.toNat).2)))
def sp_told (σ : zSt) (c p w : Int) : Int :=
  if ¬ zin c 0 3 ∨ p < 0 ∨ ((sK σ c.toNat).1 : Int) ≤ p then -1000000001
  else if ¬ zin w 0 2 then -1000000002
  else if w = 0 then (((sK σ c.toNat).2 p.toNat).1 : Int) else if w = 1 then ((sK σ c.toNat).2 p.toNat).2.1 else ((sK σ c.toNat).2 p.toNat).2.2
/-- LOW, HIGH and the denominator of a constant with N terms -/
def zplh (σ : zSt) (x : zPt) (N : Nat) : Int × Int × Int :=
  let z := zgo (sC σ x.1) 0 zq0 N
  let v := sV σ x.1 - sU σ x.1
  let e := ((zadd (sC σ x.1) (N - 1) (zgo (sC σ x.1) 0 zq0 (N - 1)) * x.2.1 * sU σ x.1).natAbs : Int)
  let w := z.2.1 * z.2.2.1 * x.2.2 * v
  let l := if w < 0 then -(z.2.2.2 * x.2.1 * v) else z.2.2.2 * x.2.1 * v
  (l + -e, l + e, (w.natAbs : Int))
def zlh (σ : zSt) (ps : Nat → zPt) (N : Nat) : Nat → Int × Int × Int
  | 0 => (0, 0, 1)
  | i + 1 =>
    let x := zlh σ ps N i
    let y := zplh σ (ps i) N
    (y.1 * x.2.2 + x.1 * y.2.2, y.2.1 * x.2.2 + x.2.1 * y.2.2, x.2.2 * y.2.2)
def zscf (da db : Nat → Int) : Nat → Nat → Nat
  | k, 0 => k
  | k, n + 1 => if da k = db k then zscf da db (k + 1) n else k
theorem zscf_same {da db : Nat → Int} : ∀ (n k : Nat), (∀ i, i < k → da i = db i) → zsame da db (k + n) (zscf da db k n)
  | 0, k, h => ⟨Nat.le_refl _, h, Or.inl rfl⟩
  | n + 1, k, h => by
    unfold zscf
    split
    · rename_i he
      have := zscf_same (da := da) (db := db) n (k + 1) (fun i hi => by
        by_cases hik : i = k
        · rw [hik]; exact he
        · exact h i (by omega))
      rw [show k + (n + 1) = k + 1 + n by omega]
      exact this
    · rename_i he
      exact ⟨by omega, h, Or.inr he⟩
/-- what is told of LOW and HIGH -/
def zrd (L H D b : Int) (n : Nat) : zRv :=
  if zsgn L H = 0 ∨ D * 4611686018427387904 ≤ zhi L H ∨ zlo L H / D ≠ zhi L H / D then (zsgn L H, -6, 0, 0, zfg (zlo L H) D b)
  else (zsgn L H, (zscf (zfg (zlo L H) D b) (zfg (zhi L H) D b) 0 n : Int), zscf (zfg (zlo L H) D b) (zfg (zhi L H) D b) 0 n, zlo L H / D, zfg (zlo L H) D b)
def ztl (σ : zSt) (c : Nat) (b : Int) (n N : Nat) : zRv := zrd (zlh σ (sK σ c).2 N (sK σ c).1).1 (zlh σ (sK σ c).2 N (sK σ c).1).2.1 (zlh σ (sK σ c).2 N (sK σ c).1).2.2 b n
/-- where the first of the parts falls that does -/
def zfp (σ : zSt) (ps : Nat → zPt) (N : Nat) : Nat → Nat → Int
  | _, 0 => -6
  | i, n + 1 => if zfl σ (ps i).1 0 0 N ≠ -6 then zfl σ (ps i).1 0 0 N else zfp σ ps N (i + 1) n
def zfc (σ : zSt) (c N : Nat) : Int := zfp σ (sK σ c).2 N 0 (sK σ c).1
def sp_figures (σ : zSt) (c b n N : Int) : Int × zSt :=
  if ¬ zin c 0 3 then (-1, σ)
  else if ¬ zin b 2 36 ∨ ¬ zin n 0 100 ∨ ¬ zin N 1 100 then (-2, σ)
  else if zfc σ c.toNat N.toNat ≠ -6 then (-100 - zfc σ c.toNat N.toNat, σ)
  else ((ztl σ c.toNat b n.toNat N.toNat).2.1, wR σ (some (c, b, n, N), ztl σ c.toNat b n.toNat N.toNat))
def znd (σ : zSt) (c : Nat) (b : Int) (n : Nat) : Nat → Nat → Int
  | _, 0 => -5
  | N, k + 1 => if zfc σ c N ≠ -6 then -5 else if (n : Int) ≤ (ztl σ c b n N).2.1 then (N : Int) else znd σ c b n (N + 1) k
def sp_need (σ : zSt) (c b n : Int) : Int :=
  if ¬ zin c 0 3 then -1 else if ¬ zin b 2 36 ∨ ¬ zin n 0 100 then -2 else znd σ c.toNat b n.toNat 1 100
def sp_signOf (σ : zSt) : Int := (sR σ).2.1
def sp_whole (σ : zSt) : Int := (sR σ).2.2.2.2.1
def sp_figure (σ : zSt) (i : Int) : Int := zbp (sR σ).2.2.2.1 (sR σ).2.2.2.2.2 i
def sp_count (σ : zSt) (x : Int) : Int := if ¬ zin x 0 35 then -2 else (zcnt (sR σ).2.2.2.2.2 x (sR σ).2.2.2.1 : Int)
def sp_where (σ : zSt) (row k : Int) : Int := if ¬ zin k 1 5 then -2 else zplc (sR σ).2.2.2.2.2 row k.toNat 0 ((sR σ).2.2.2.1 + 1 - k.toNat)
def sp_about (σ : zSt) (w : Int) : Int :=
  if ¬ zin w 0 4 then -2
  else match (sR σ).1 with
    | none => -3
    | some (c, b, n, N) => if w = 0 then c else if w = 1 then b else if w = 2 then n else if w = 3 then N else (sR σ).2.2.1
def sp_agree (σ : zSt) (c d b n N : Int) : Int :=
  if ¬ zin c 0 3 ∨ ¬ zin d 0 3 then -1
  else if ¬ zin b 2 36 ∨ ¬ zin n 0 100 ∨ ¬ zin N 1 100 then -2
  else if zfc σ c.toNat N.toNat ≠ -6 then -100 - zfc σ c.toNat N.toNat
  else if zfc σ d.toNat N.toNat ≠ -6 then -100 - zfc σ d.toNat N.toNat
  else
    let x := ztl σ c.toNat b n.toNat N.toNat
    let y := ztl σ d.toNat b n.toNat N.toNat
    zagr x.2.1 y.2.1 x.1 y.1 x.2.2.2.1 y.2.2.2.1 x.2.2.2.2 y.2.2.2.2 (min x.2.2.1 y.2.2.1)

/-! What may be in a state stays so -/
theorem zStok.D {σ : zSt} {D : Nat → Option zDr} (h : zStok σ) (hD : ∀ d x, d < 8 → D d = some x → zdrok x) : zStok (wD σ D) := ⟨h.1, hD, h.2.2.1, h.2.2.2⟩
theorem zStok.up {σ : zSt} {k : Nat} {x : Option zDr} (h : zStok σ) (hx : ∀ y, x = some y → zdrok y) : zStok (wD σ (zup (sD σ) k x)) := h.D (fun d y hd hy => by
  by_cases e : d = k
  · subst e; rw [zup_same] at hy; exact hx y hy
  · rw [zup_ne _ _ e] at hy; exact h.2.1 d y hd hy)
theorem zdem_some {D : Nat → Option zDr} {s d : Nat} {x : zDr} (h : zdem D s d = some x) : D d = some x := by
  unfold zdem at h
  cases hd : D d with
  | none => rw [hd] at h; cases h
  | some y =>
    rw [hd] at h
    dsimp only at h
    split at h
    · cases h
    · exact h
theorem zStok_0 : zStok zS0 := by
  refine ⟨fun s _ => ⟨fun w j _ _ => by show -999 ≤ (0 : Int) ∧ (0 : Int) ≤ 999; omega, by show (1 : Int) ≤ 1 ∧ (1 : Int) < 2 ∧ (2 : Int) ≤ 1000000; omega⟩, fun d x _ h => (by cases h), fun c _ => ⟨Nat.zero_le _, fun i hi => absurd hi (Nat.not_lt_zero i)⟩, ⟨by show -1 ≤ (0 : Int) ∧ (0 : Int) ≤ 1; omega, Or.inl ⟨rfl, rfl⟩, by show 0 ≤ (0 : Int) ∧ (0 : Int) < 4611686018427387904; omega, fun j hj => absurd hj (Nat.not_lt_zero j)⟩, fun i h => (by cases h), fun _ => ⟨rfl, rfl, rfl, rfl⟩⟩
theorem zStok_rule {σ : zSt} (h : zStok σ) (s w x y z : Int) : zStok (sp_rule σ s w x y z).2 := by
  unfold sp_rule
  split
  · exact h
  · split
    · exact h
    · rename_i h1 h2
      refine ⟨fun t ht => ⟨fun v j hv hj => ?_, (h.1 t ht).2⟩, fun d y hd hy => h.2.1 d y hd (zdem_some hy), h.2.2.1, h.2.2.2⟩
      show -999 ≤ zup (sC σ) s.toNat (zup (sC σ s.toNat) w.toNat (fun j => if j = 0 then x else if j = 1 then y else z)) t v j ∧ zup (sC σ) s.toNat (zup (sC σ s.toNat) w.toNat (fun j => if j = 0 then x else if j = 1 then y else z)) t v j ≤ 999
      by_cases hts : t = s.toNat
      · subst hts
        rw [zup_same]
        by_cases hvw : v = w.toNat
        · subst hvw
          rw [zup_same]
          try dsimp only
          split
          · omega
          · split <;> omega
        · rw [zup_ne _ _ hvw]
          exact (h.1 _ ht).1 v j hv hj
      · rw [zup_ne _ _ hts]
        exact (h.1 t ht).1 v j hv hj
theorem zStok_bound {σ : zSt} (h : zStok σ) (s u v : Int) : zStok (sp_bound σ s u v).2 := by
  unfold sp_bound
  split
  · exact h
  · split
    · exact h
    · rename_i h1 h2
      refine ⟨fun t ht => ⟨(h.1 t ht).1, ?_⟩, fun d y hd hy => h.2.1 d y hd (zdem_some hy), h.2.2.1, h.2.2.2⟩
      show zbnd (zup (sU σ) s.toNat u t) (zup (sV σ) s.toNat v t)
      by_cases hts : t = s.toNat
      · subst hts
        rw [zup_same, zup_same]
        unfold zbnd
        omega
      · rw [zup_ne _ _ hts, zup_ne _ _ hts]
        exact (h.1 t ht).2
theorem zStok_grind {σ : zSt} (h : zStok σ) (d s i j : Int) : zStok (sp_grind σ d s i j).2 := by
  unfold sp_grind
  split
  · exact h
  · split
    · exact h
    · split
      · exact h
      · rename_i h1 h2 h3
        refine h.up (fun y hy => ?_)
        obtain rfl := Option.some.inj hy
        have hz := zok_go (h.1 s.toNat (by omega)).1 zok_0 (k := i.toNat) (d := j.toNat - i.toNat) (by omega)
        rw [Nat.zero_add] at hz
        exact ⟨by show s.toNat < 6; omega, by show i.toNat ≤ j.toNat; omega, by show j.toNat ≤ 100; omega, hz⟩
theorem zStok_more {σ : zSt} (h : zStok σ) (d n : Int) : zStok (sp_more σ d n).2 := by
  unfold sp_more
  split
  · exact h
  · split
    · exact h
    · rename_i h1 h2
      rcases hx : sD σ d.toNat with _ | x
      · exact h
      · obtain ⟨o1, o2, o3, o4⟩ := h.2.1 d.toNat x (by omega) hx
        dsimp only
        split
        · exact h
        · have hc := (h.1 x.1 o1).1
          have hR := zff_bd (sC σ x.1) (sU σ x.1) (sV σ x.1) x.2.1 x.2.2.1 n.toNat
          split
          · refine h.up (fun y hy => ?_)
            obtain rfl := Option.some.inj hy
            have hz := zok_go hc o4 (k := x.2.2.1) (d := n.toNat) (by omega)
            exact ⟨o1, by show x.2.1 ≤ x.2.2.1 + n.toNat; omega, by show x.2.2.1 + n.toNat ≤ 100; omega, by show zok (x.2.2.1 + n.toNat - x.2.1) _; rw [show x.2.2.1 + n.toNat - x.2.1 = x.2.2.1 - x.2.1 + n.toNat by omega]; exact hz⟩
          · rename_i h3 h4
            refine h.up (fun y hy => ?_)
            obtain rfl := Option.some.inj hy
            unfold zfl at h4 ⊢
            generalize zff (sC σ x.1) (sU σ x.1) (sV σ x.1) x.2.1 x.2.2.1 n.toNat = f at *
            have hz := zok_go hc o4 (k := x.2.2.1) (d := f.toNat - x.2.2.1) (by omega)
            exact ⟨o1, by show x.2.1 ≤ f.toNat; omega, by show f.toNat ≤ 100; omega, by show zok (f.toNat - x.2.1) _; rw [show f.toNat - x.2.1 = x.2.2.1 - x.2.1 + (f.toNat - x.2.2.1) by omega]; exact hz⟩
theorem zStok_join {σ : zSt} (h : zStok σ) (d e f : Int) : zStok (sp_join σ d e f).2 := by
  unfold sp_join
  split
  · exact h
  · rename_i h1
    rcases hx : sD σ d.toNat with _ | x
    · exact h
    · rcases hy : sD σ e.toNat with _ | y
      · exact h
      · obtain ⟨o1, o2, o3, o4⟩ := h.2.1 d.toNat x (by omega) hx
        obtain ⟨p1, p2, p3, p4⟩ := h.2.1 e.toNat y (by omega) hy
        dsimp only
        split
        · exact h
        · rename_i h2
          refine h.up (fun z hz => ?_)
          obtain rfl := Option.some.inj hz
          have hj := zok_join o4 p4
          exact ⟨o1, by show x.2.1 ≤ y.2.2.1; omega, p3, by show zok (y.2.2.1 - x.2.1) _; rw [show y.2.2.1 - x.2.1 = x.2.2.1 - x.2.1 + (y.2.2.1 - y.2.1) by omega]; exact hj⟩
theorem zStok_empty {σ : zSt} (h : zStok σ) (d : Int) : zStok (sp_empty σ d).2 := by
  unfold sp_empty
  split
  · exact h
  · rcases hx : sD σ d.toNat with _ | ⟨x1, x2, x3, x4⟩
    · exact h
    · exact h.up (fun y hy => by cases hy)
theorem zStok.K {σ : zSt} {k : Nat} {x : Nat × (Nat → zPt)} (h : zStok σ) (hx : x.1 ≤ 4 ∧ ∀ i, i < x.1 → zptok (x.2 i)) : zStok (wK σ (zup (sK σ) k x)) := ⟨h.1, h.2.1, fun c hc => by
  show (zup (sK σ) k x c).1 ≤ 4 ∧ ∀ i, i < (zup (sK σ) k x c).1 → zptok ((zup (sK σ) k x c).2 i)
  by_cases e : c = k
  · subst e; rw [zup_same]; exact hx
  · rw [zup_ne _ _ e]; exact h.2.2.1 c hc, h.2.2.2⟩
theorem zStok_part {σ : zSt} (h : zStok σ) (c s m n : Int) : zStok (sp_part σ c s m n).2 := by
  unfold sp_part
  split
  · exact h
  · split
    · exact h
    · split
      · exact h
      · rename_i h1 h2 h3
        obtain ⟨g1, g2⟩ := h.2.2.1 c.toNat (by omega)
        refine h.K ⟨by show (sK σ c.toNat).1 + 1 ≤ 4; omega, fun i hi => ?_⟩
        have hi : i < (sK σ c.toNat).1 + 1 := hi
        show zptok (zup (sK σ c.toNat).2 (sK σ c.toNat).1 (s.toNat, m, n) i)
        by_cases e : i = (sK σ c.toNat).1
        · subst e
          rw [zup_same]
          exact ⟨by show s.toNat < 6; omega, by show -1000000 ≤ m ∧ m ≤ 1000000; omega, by show 1 ≤ n; omega, by show n ≤ 1000000; omega⟩
        · rw [zup_ne _ _ e]
          exact g2 i (by omega)
theorem zStok_clear {σ : zSt} (h : zStok σ) (c : Int) : zStok (sp_clear σ c).2 := by
  unfold sp_clear
  split
  · exact h
  · exact h.K ⟨Nat.zero_le _, fun i hi => absurd hi (Nat.not_lt_zero i)⟩
theorem zStok_figures {σ : zSt} (h : zStok σ) (c b n N : Int) : zStok (sp_figures σ c b n N).2 := by
  unfold sp_figures
  split
  · exact h
  · split
    · exact h
    · split
      · exact h
      · rename_i h1 h2 h3
        have hok := (ztl_ok (n := n.toNat) (b := b) (N := N.toNat) h (show c.toNat < 4 by omega) (by omega) (by omega) (by omega)).2
        refine ⟨h.1, h.2.1, h.2.2.1, hok, fun i hi => ?_, fun e => (by cases e)⟩
        obtain rfl := Option.some.inj hi
        exact ⟨by show 0 ≤ c ∧ c < 4; omega, by show 2 ≤ b ∧ b ≤ 36; omega, by show 0 ≤ n ∧ n ≤ 100; omega, by show 1 ≤ N; omega, by show N ≤ 100; omega⟩

/-! The law: its script, the rules for it, the two worlds side by side -/
def zScr (E : zCx) (b0 L : Nat) (xs : Nat → Int32) : Prop := match E with
  | (_, _, _, _, s, _, _, _, _, _, _, B, _) => va_X b0 L xs s s.heap ∧ b0 < s.heap.size ∧ B = s.heap.size
def zx (xs : Nat → Int32) (j : Nat) : Int := (xs j).toInt
theorem zx_32 (xs : Nat → Int32) (j : Nat) : zi32 (zx xs j) := ⟨Int32.le_toInt _, Int32.toInt_lt _⟩
section
variable {E : zCx} {cc : ByteArray} {own : String} {nL : Nat} {ret : Option FieldType} {rm : Room} {cs : Nat × Nat} {A : zA} {m : zM} {pc : Nat} {lv : zLv} {st : List Value}
theorem z_sld (X : zOK E cc own nL ret rm) {b0 L : Nat} {xs : Nat → Int32} (hX : zScr E b0 L xs) (j : Nat) {i : Int} (hd : decode cc pc = .ok (.iaload, 1)) (hj : i = (j : Int)) (hlt : j < L) (h31 : j < 2147483648) (kk : zW E cs A m (pc + 1) lv (vi (zx xs j) :: st)) : zW E cs A m pc lv (vi i :: vr b0 :: st) := by
  obtain ⟨p, l, e, R, s, mm, args, below, meth, c, D, B, Q⟩ := E
  obtain ⟨hx, hb, hml, hown, hts, hK, hB, hr, hlk, hR0⟩ := X
  obtain ⟨hXX, hbl, hBe⟩ := hX
  intro H locs ls hR hS hL hn
  subst hj
  have hin := zI_in (a := (j : Int)) (n := L) (by omega) (by omega) (by omega)
  refine va_sld (A := fun q => B ≤ q) hx hb hXX hbl (by show ¬ (B ≤ b0); omega) hS hin hd ?_
  have h := kk H locs ls hR hS hL hn
  have e1 : (Int32.ofInt (j : Int)).toNatClampNeg = j := by rw [zI_clamp (by omega), Int.toNat_natCast]
  rw [e1]
  have e2 : vi (zx xs j) = .int (xs j) := congrArg Value.int (Int32.ofInt_toInt _)
  rw [e2] at h
  exact h
theorem z_slen (X : zOK E cc own nL ret rm) {b0 L : Nat} {xs : Nat → Int32} (hX : zScr E b0 L xs) (hd : decode cc pc = .ok (.arraylength, 1)) (kk : zW E cs A m (pc + 1) lv (vi (L : Int) :: st)) : zW E cs A m pc lv (vr b0 :: st) := by
  obtain ⟨p, l, e, R, s, mm, args, below, meth, c, D, B, Q⟩ := E
  obtain ⟨hx, hb, hml, hown, hts, hK, hB, hr, hlk, hR0⟩ := X
  obtain ⟨hXX, hbl, hBe⟩ := hX
  intro H locs ls hR hS hL hn
  refine va_slen (A := fun q => B ≤ q) hx hb hXX hbl (by show ¬ (B ≤ b0); omega) hS hd ?_
  have h := kk H locs ls hR hS hL hn
  have e2 : vi (L : Int) = .int (Int32.ofNat L) := congrArg Value.int (by rw [Int32.ofInt_eq_ofNat])
  rw [e2] at h
  exact h
theorem z_icmp_eqS {a : Int} {off : Int} (X : zOK E cc own nL ret rm) (hd : decode cc pc = .ok (.if_icmp .eq off, 3)) (tgt : Nat) (ht : (pc : Int) + off = (tgt : Int)) (kk : zW E cs A m tgt lv st) : zW E cs A m pc lv (vi a :: vi a :: st) := by
  obtain ⟨p, l, e, R, s, mm, args, below, meth, c, D, B, Q⟩ := E
  obtain ⟨hx, hb, hml, hown, hts, hK, hB, hr, hlk, hR0⟩ := X
  intro H locs ls hR hS hL hn
  exact lv_icmp_eq hx hb hd ht (fun _ => kk H locs ls hR hS hL hn) (fun h => absurd rfl h)
theorem z_lcmp_eqS {a : Int} {off : Int} (X : zOK E cc own nL ret rm) (hd : decode cc pc = .ok (.lcmp, 1)) (hd2 : decode cc (pc + 1) = .ok (.ifCond .eq off, 3)) (tgt : Nat) (ht : ((pc + 1 : Nat) : Int) + off = (tgt : Int)) (kk : zW E cs A m tgt lv st) : zW E cs A m pc lv (vl a :: vl a :: st) := by
  have e : vl a = vl ((Int64.ofInt a).toInt) := congrArg Value.long (Int64.ofInt_toInt _).symm
  have h1 := Int64.le_toInt (Int64.ofInt a)
  have h2 := Int64.toInt_lt (Int64.ofInt a)
  rw [e]
  exact z_lcmp_eq X hd hd2 tgt ht ⟨h1, h2⟩ ⟨h1, h2⟩ (fun _ => kk) (fun h => absurd rfl h)
end
section
variable {A A' : zA} {m m' : zM} {a n : Nat}
theorem zgrA.f (h : zgrA A a) (hG : zFr n A m A' m') (ha : a + 9 ≤ n) : zgrA A' a := by
  obtain ⟨h1, ⟨h2, h3, h4, h5⟩, b1, b2, b3, b4⟩ := h
  exact ⟨(hG.1 _ (by omega)).trans h1, ⟨(hG.2.1 _ _ (by omega)).trans h2, (hG.2.1 _ _ (by omega)).trans h3, (hG.2.1 _ _ (by omega)).trans h4, (hG.2.1 _ _ (by omega)).trans h5⟩, b1.f hG (by omega), b2.f hG (by omega), b3.f hG (by omega), b4.f hG (by omega)⟩
theorem zencA.f (h : zencA A a) (hG : zFr n A m A' m') (ha : a + 9 ≤ n) : zencA A' a := by
  obtain ⟨h1, ⟨h2, h3, h4, h5⟩, b1, b2, b3, b4⟩ := h
  exact ⟨(hG.1 _ (by omega)).trans h1, ⟨(hG.2.1 _ _ (by omega)).trans h2, (hG.2.1 _ _ (by omega)).trans h3, (hG.2.1 _ _ (by omega)).trans h4, (hG.2.1 _ _ (by omega)).trans h5⟩, b1.f hG (by omega), b2.f hG (by omega), b3.f hG (by omega), b4.f hG (by omega)⟩
theorem zspanA.f (h : zspanA A a) (hG : zFr n A m A' m') (ha : a + 9 ≤ n) : zspanA A' a := by
  obtain ⟨h1, ⟨h2, h3, h4, h5⟩, b1, b2, b3, b4⟩ := h
  exact ⟨(hG.1 _ (by omega)).trans h1, ⟨(hG.2.1 _ _ (by omega)).trans h2, (hG.2.1 _ _ (by omega)).trans h3, (hG.2.1 _ _ (by omega)).trans h4, (hG.2.1 _ _ (by omega)).trans h5⟩, b1.f hG (by omega), b2.f hG (by omega), b3.f hG (by omega), b4.f hG (by omega)⟩
theorem zfigA.f (h : zfigA A a) (hG : zFr n A m A' m') (ha : a + 2 ≤ n) : zfigA A' a := ⟨(hG.1 _ (by omega)).trans h.1, (hG.2.1 _ _ (by omega)).trans h.2.1, (hG.1 _ (by omega)).trans h.2.2⟩
theorem zsumA.f (h : zsumA A a) (hG : zFr n A m A' m') (ha : a + 4 ≤ n) : zsumA A' a := by
  obtain ⟨h1, ⟨h2, h3, h4⟩, h5, h6, h7⟩ := h
  exact ⟨(hG.1 _ (by omega)).trans h1, ⟨(hG.2.1 _ _ (by omega)).trans h2, (hG.2.1 _ _ (by omega)).trans h3, (hG.2.1 _ _ (by omega)).trans h4⟩, (hG.1 _ (by omega)).trans h5, (hG.1 _ (by omega)).trans h6, (hG.1 _ (by omega)).trans h7⟩
theorem zcoA.f (h : zcoA A a) (hG : zFr n A m A' m') (ha : a + 4 ≤ n) : zcoA A' a := by
  obtain ⟨h1, ⟨h2, h3, h4⟩, h5, h6, h7⟩ := h
  exact ⟨(hG.1 _ (by omega)).trans h1, ⟨(hG.2.1 _ _ (by omega)).trans h2, (hG.2.1 _ _ (by omega)).trans h3, (hG.2.1 _ _ (by omega)).trans h4⟩, (hG.1 _ (by omega)).trans h5, (hG.1 _ (by omega)).trans h6, (hG.1 _ (by omega)).trans h7⟩
theorem zmilA.f {b : Nat} (h : zmilA A b) (hG : zFr n A m A' m') (ha : b + 149 ≤ n) : zmilA A' b := by
  obtain ⟨⟨a0, a1, a2, a3, a4, a5, a6, a7, a8, a9⟩, ⟨s1, s2, s3⟩, ⟨g1, g2, g3, g4, g5, g6⟩, t1, t2, t3⟩ := h
  have k1 : ∀ a, a < n → A'.1 a = A.1 a := hG.1
  have k2 : ∀ a j, a < n → A'.2.1 a j = A.2.1 a j := hG.2.1
  exact ⟨⟨(k1 _ (by omega)).trans a0, (k2 _ _ (by omega)).trans a1, (k2 _ _ (by omega)).trans a2, (k2 _ _ (by omega)).trans a3, (k2 _ _ (by omega)).trans a4, (k2 _ _ (by omega)).trans a5, (k2 _ _ (by omega)).trans a6, (k2 _ _ (by omega)).trans a7, (k2 _ _ (by omega)).trans a8, (k2 _ _ (by omega)).trans a9⟩, ⟨(k1 _ (by omega)).trans s1, (k1 _ (by omega)).trans s2, (k1 _ (by omega)).trans s3⟩, ⟨g1.f hG (by omega), g2.f hG (by omega), g3.f hG (by omega), g4.f hG (by omega), g5.f hG (by omega), g6.f hG (by omega)⟩, fun i hi => ⟨(k2 _ _ (by omega)).trans (t1 i hi).1, (t1 i hi).2.f hG (by omega)⟩, fun i hi => ⟨(k2 _ _ (by omega)).trans (t2 i hi).1, (t2 i hi).2.f hG (by omega)⟩, fun i hi => ⟨(k2 _ _ (by omega)).trans (t3 i hi).1, (t3 i hi).2.f hG (by omega)⟩⟩
end
theorem zCR.mm {b : Nat} {m m' : zM} {σ : zSt} (h : zCR b m σ) (hf : zmm (b + 149) m m') : zCR b m' σ := h.e (fun a j _ => hf a j (by omega))
theorem zMR.mo {b : Nat} {m m' : zM} {σ : zSt} (h : zMR (b + 149) m σ) (hf : zmo b m m') : zMR (b + 149) m' σ := h.e (fun a j _ => hf a j (by omega)) (fun j _ => hf _ j (by omega)) (fun x _ => ⟨hf _ _ (by omega), hf _ _ (by omega), fun i _ => hf _ _ (by omega)⟩)

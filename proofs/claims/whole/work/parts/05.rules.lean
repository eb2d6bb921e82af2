theorem z_iload_n {E : zCx} {cc : ByteArray} {own : String} {nL : Nat} {ret : Option FieldType} {rm : Room} {cs : Nat × Nat} {A : zA} {m : zM} {pc : Nat} {lv : zLv} {st : List Value} {k : Fin 4} {x : Int} (X : zOK E cc own nL ret rm) (hd : decode cc pc = .ok (.iload_n k, 1)) (hl : lv[(k : Nat)]? = some (some (vi x))) (kk : zW E cs A m (pc + 1) lv (vi x :: st)) : zW E cs A m pc lv (st) := by
  obtain ⟨p, l, e, R, s, mm, args, below, meth, c, D, B, Q⟩ := E
  obtain ⟨hx, hb, hml, hown, hts, hK, hB, hr, hlk, hR0⟩ := X
  intro H locs ls hR hS hL hn
  exact lv_iload_n hx hb hd rfl (hL.at hl) (kk H locs ls hR hS hL hn)
theorem z_iload {E : zCx} {cc : ByteArray} {own : String} {nL : Nat} {ret : Option FieldType} {rm : Room} {cs : Nat × Nat} {A : zA} {m : zM} {pc : Nat} {lv : zLv} {st : List Value} {k : Nat} {x : Int} (X : zOK E cc own nL ret rm) (hd : decode cc pc = .ok (.iload k, 2)) (hl : lv[k]? = some (some (vi x))) (kk : zW E cs A m (pc + 2) lv (vi x :: st)) : zW E cs A m pc lv (st) := by
  obtain ⟨p, l, e, R, s, mm, args, below, meth, c, D, B, Q⟩ := E
  obtain ⟨hx, hb, hml, hown, hts, hK, hB, hr, hlk, hR0⟩ := X
  intro H locs ls hR hS hL hn
  exact lv_iload hx hb hd (hL.at hl) (kk H locs ls hR hS hL hn)
theorem z_lload_n {E : zCx} {cc : ByteArray} {own : String} {nL : Nat} {ret : Option FieldType} {rm : Room} {cs : Nat × Nat} {A : zA} {m : zM} {pc : Nat} {lv : zLv} {st : List Value} {k : Fin 4} {x : Int} (X : zOK E cc own nL ret rm) (hd : decode cc pc = .ok (.lload_n k, 1)) (hl : lv[(k : Nat)]? = some (some (vl x))) (kk : zW E cs A m (pc + 1) lv (vl x :: st)) : zW E cs A m pc lv (st) := by
  obtain ⟨p, l, e, R, s, mm, args, below, meth, c, D, B, Q⟩ := E
  obtain ⟨hx, hb, hml, hown, hts, hK, hB, hr, hlk, hR0⟩ := X
  intro H locs ls hR hS hL hn
  exact lv_lload_n hx hb hd rfl (hL.at hl) (kk H locs ls hR hS hL hn)
theorem z_lload {E : zCx} {cc : ByteArray} {own : String} {nL : Nat} {ret : Option FieldType} {rm : Room} {cs : Nat × Nat} {A : zA} {m : zM} {pc : Nat} {lv : zLv} {st : List Value} {k : Nat} {x : Int} (X : zOK E cc own nL ret rm) (hd : decode cc pc = .ok (.lload k, 2)) (hl : lv[k]? = some (some (vl x))) (kk : zW E cs A m (pc + 2) lv (vl x :: st)) : zW E cs A m pc lv (st) := by
  obtain ⟨p, l, e, R, s, mm, args, below, meth, c, D, B, Q⟩ := E
  obtain ⟨hx, hb, hml, hown, hts, hK, hB, hr, hlk, hR0⟩ := X
  intro H locs ls hR hS hL hn
  exact lv_lload hx hb hd (hL.at hl) (kk H locs ls hR hS hL hn)
theorem z_aload_n {E : zCx} {cc : ByteArray} {own : String} {nL : Nat} {ret : Option FieldType} {rm : Room} {cs : Nat × Nat} {A : zA} {m : zM} {pc : Nat} {lv : zLv} {st : List Value} {k : Fin 4} {a : Nat} (X : zOK E cc own nL ret rm) (hd : decode cc pc = .ok (.aload_n k, 1)) (hl : lv[(k : Nat)]? = some (some (vr a))) (kk : zW E cs A m (pc + 1) lv (vr a :: st)) : zW E cs A m pc lv (st) := by
  obtain ⟨p, l, e, R, s, mm, args, below, meth, c, D, B, Q⟩ := E
  obtain ⟨hx, hb, hml, hown, hts, hK, hB, hr, hlk, hR0⟩ := X
  intro H locs ls hR hS hL hn
  exact lv_aload_n hx hb hd rfl (hL.at hl) (kk H locs ls hR hS hL hn)
theorem z_aload {E : zCx} {cc : ByteArray} {own : String} {nL : Nat} {ret : Option FieldType} {rm : Room} {cs : Nat × Nat} {A : zA} {m : zM} {pc : Nat} {lv : zLv} {st : List Value} {k a : Nat} (X : zOK E cc own nL ret rm) (hd : decode cc pc = .ok (.aload k, 2)) (hl : lv[k]? = some (some (vr a))) (kk : zW E cs A m (pc + 2) lv (vr a :: st)) : zW E cs A m pc lv (st) := by
  obtain ⟨p, l, e, R, s, mm, args, below, meth, c, D, B, Q⟩ := E
  obtain ⟨hx, hb, hml, hown, hts, hK, hB, hr, hlk, hR0⟩ := X
  intro H locs ls hR hS hL hn
  exact lv_aload hx hb hd (hL.at hl) (kk H locs ls hR hS hL hn)
theorem z_aload_nN {E : zCx} {cc : ByteArray} {own : String} {nL : Nat} {ret : Option FieldType} {rm : Room} {cs : Nat × Nat} {A : zA} {m : zM} {pc : Nat} {lv : zLv} {st : List Value} {k : Fin 4} (X : zOK E cc own nL ret rm) (hd : decode cc pc = .ok (.aload_n k, 1)) (hl : lv[(k : Nat)]? = some (some .null)) (kk : zW E cs A m (pc + 1) lv (.null :: st)) : zW E cs A m pc lv (st) := by
  obtain ⟨p, l, e, R, s, mm, args, below, meth, c, D, B, Q⟩ := E
  obtain ⟨hx, hb, hml, hown, hts, hK, hB, hr, hlk, hR0⟩ := X
  intro H locs ls hR hS hL hn
  exact lv_aload_nN hx hb hd rfl (hL.at hl) (kk H locs ls hR hS hL hn)
theorem z_aloadN {E : zCx} {cc : ByteArray} {own : String} {nL : Nat} {ret : Option FieldType} {rm : Room} {cs : Nat × Nat} {A : zA} {m : zM} {pc : Nat} {lv : zLv} {st : List Value} {k : Nat} (X : zOK E cc own nL ret rm) (hd : decode cc pc = .ok (.aload k, 2)) (hl : lv[k]? = some (some .null)) (kk : zW E cs A m (pc + 2) lv (.null :: st)) : zW E cs A m pc lv (st) := by
  obtain ⟨p, l, e, R, s, mm, args, below, meth, c, D, B, Q⟩ := E
  obtain ⟨hx, hb, hml, hown, hts, hK, hB, hr, hlk, hR0⟩ := X
  intro H locs ls hR hS hL hn
  exact lv_aloadN hx hb hd (hL.at hl) (kk H locs ls hR hS hL hn)
theorem z_iconst {E : zCx} {cc : ByteArray} {own : String} {nL : Nat} {ret : Option FieldType} {rm : Room} {cs : Nat × Nat} {A : zA} {m : zM} {pc : Nat} {lv : zLv} {st : List Value} {n : Int} (X : zOK E cc own nL ret rm) (hd : decode cc pc = .ok (.iconst n, 1)) (kk : zW E cs A m (pc + 1) lv (vi n :: st)) : zW E cs A m pc lv (st) := by
  obtain ⟨p, l, e, R, s, mm, args, below, meth, c, D, B, Q⟩ := E
  obtain ⟨hx, hb, hml, hown, hts, hK, hB, hr, hlk, hR0⟩ := X
  intro H locs ls hR hS hL hn
  exact lv_iconst hx hb hd rfl (kk H locs ls hR hS hL hn)
theorem z_bipush {E : zCx} {cc : ByteArray} {own : String} {nL : Nat} {ret : Option FieldType} {rm : Room} {cs : Nat × Nat} {A : zA} {m : zM} {pc : Nat} {lv : zLv} {st : List Value} {n : Int} (X : zOK E cc own nL ret rm) (hd : decode cc pc = .ok (.bipush n, 2)) (hv : (Int8.ofInt n).toInt32 = Int32.ofInt n := by decide) (kk : zW E cs A m (pc + 2) lv (vi n :: st)) : zW E cs A m pc lv (st) := by
  obtain ⟨p, l, e, R, s, mm, args, below, meth, c, D, B, Q⟩ := E
  obtain ⟨hx, hb, hml, hown, hts, hK, hB, hr, hlk, hR0⟩ := X
  intro H locs ls hR hS hL hn
  exact lv_bipush hx hb hd hv (kk H locs ls hR hS hL hn)
theorem z_sipush {E : zCx} {cc : ByteArray} {own : String} {nL : Nat} {ret : Option FieldType} {rm : Room} {cs : Nat × Nat} {A : zA} {m : zM} {pc : Nat} {lv : zLv} {st : List Value} {n : Int} (X : zOK E cc own nL ret rm) (hd : decode cc pc = .ok (.sipush n, 3)) (hv : (Int16.ofInt n).toInt32 = Int32.ofInt n := by decide) (kk : zW E cs A m (pc + 3) lv (vi n :: st)) : zW E cs A m pc lv (st) := by
  obtain ⟨p, l, e, R, s, mm, args, below, meth, c, D, B, Q⟩ := E
  obtain ⟨hx, hb, hml, hown, hts, hK, hB, hr, hlk, hR0⟩ := X
  intro H locs ls hR hS hL hn
  exact lv_sipush hx hb hd hv (kk H locs ls hR hS hL hn)
theorem z_lconst {E : zCx} {cc : ByteArray} {own : String} {nL : Nat} {ret : Option FieldType} {rm : Room} {cs : Nat × Nat} {A : zA} {m : zM} {pc : Nat} {lv : zLv} {st : List Value} {n : Fin 2} (X : zOK E cc own nL ret rm) (hd : decode cc pc = .ok (.lconst n, 1)) (x : Int) (hv : Int64.ofNat (n : Nat) = Int64.ofInt x) (kk : zW E cs A m (pc + 1) lv (vl x :: st)) : zW E cs A m pc lv (st) := by
  obtain ⟨p, l, e, R, s, mm, args, below, meth, c, D, B, Q⟩ := E
  obtain ⟨hx, hb, hml, hown, hts, hK, hB, hr, hlk, hR0⟩ := X
  intro H locs ls hR hS hL hn
  exact lv_lconst hx hb hd hv (kk H locs ls hR hS hL hn)
theorem z_ldc {E : zCx} {cc : ByteArray} {own : String} {nL : Nat} {ret : Option FieldType} {rm : Room} {cs : Nat × Nat} {A : zA} {m : zM} {pc : Nat} {lv : zLv} {st : List Value} {index : Nat} {v : Int32} (X : zOK E cc own nL ret rm) (hd : decode cc pc = .ok (.ldc index, 2)) (hw : Cond.constant own index v ∈ zGB) (x : Int) (hv : v = Int32.ofInt x) (kk : zW E cs A m (pc + 2) lv (vi x :: st)) : zW E cs A m pc lv (st) := by
  obtain ⟨p, l, e, R, s, mm, args, below, meth, c, D, B, Q⟩ := E
  obtain ⟨hx, hb, hml, hown, hts, hK, hB, hr, hlk, hR0⟩ := X
  intro H locs ls hR hS hL hn
  subst hv
  exact lv_ldc hx hb hown (hts _ hw) hd (kk H locs ls hR hS hL hn)
theorem z_ldc2 {E : zCx} {cc : ByteArray} {own : String} {nL : Nat} {ret : Option FieldType} {rm : Room} {cs : Nat × Nat} {A : zA} {m : zM} {pc : Nat} {lv : zLv} {st : List Value} {index : Nat} {v : Int64} (X : zOK E cc own nL ret rm) (hd : decode cc pc = .ok (.ldc2_w index, 3)) (hw : Cond.constantLong own index v ∈ zGB) (x : Int) (hv : v = Int64.ofInt x) (kk : zW E cs A m (pc + 3) lv (vl x :: st)) : zW E cs A m pc lv (st) := by
  obtain ⟨p, l, e, R, s, mm, args, below, meth, c, D, B, Q⟩ := E
  obtain ⟨hx, hb, hml, hown, hts, hK, hB, hr, hlk, hR0⟩ := X
  intro H locs ls hR hS hL hn
  subst hv
  exact lv_ldc2 hx hb hown (hts _ hw) hd (kk H locs ls hR hS hL hn)
theorem z_null {E : zCx} {cc : ByteArray} {own : String} {nL : Nat} {ret : Option FieldType} {rm : Room} {cs : Nat × Nat} {A : zA} {m : zM} {pc : Nat} {lv : zLv} {st : List Value}  (X : zOK E cc own nL ret rm) (hd : decode cc pc = .ok (.aconst_null, 1)) (kk : zW E cs A m (pc + 1) lv (.null :: st)) : zW E cs A m pc lv (st) := by
  obtain ⟨p, l, e, R, s, mm, args, below, meth, c, D, B, Q⟩ := E
  obtain ⟨hx, hb, hml, hown, hts, hK, hB, hr, hlk, hR0⟩ := X
  intro H locs ls hR hS hL hn
  exact lv_null hx hb hd (kk H locs ls hR hS hL hn)
theorem z_istore_n {E : zCx} {cc : ByteArray} {own : String} {nL : Nat} {ret : Option FieldType} {rm : Room} {cs : Nat × Nat} {A : zA} {m : zM} {pc : Nat} {lv : zLv} {st : List Value} {k : Fin 4} {x : Int} (X : zOK E cc own nL ret rm) (hd : decode cc pc = .ok (.istore_n k, 1)) (lv1 : Int → zLv) (hi : (k : Nat) < nL) (hlv : ∀ y, zs1 lv (k : Nat) (vi y) = lv1 y) (kk : ∀ y : Int, y = x → zW E cs A m (pc + 1) (lv1 y) (st)) : zW E cs A m pc lv (vi x :: st) := by
  obtain ⟨p, l, e, R, s, mm, args, below, meth, c, D, B, Q⟩ := E
  obtain ⟨hx, hb, hml, hown, hts, hK, hB, hr, hlk, hR0⟩ := X
  intro H locs ls hR hS hL hn
  refine lv_istore_n hx hb hd rfl hL.has (by rw [hn, hml]; exact hi) rfl (fun ls' hl' => ?_)
  refine kk x rfl H locs ls' hR hS ?_ (by rw [← hlv]; simp [zs1, zclr_len, hn])
  rw [← hlv]
  exact zL.s1 rfl (by rw [hn, hml]; exact hi) rfl hl'

theorem z_istore {E : zCx} {cc : ByteArray} {own : String} {nL : Nat} {ret : Option FieldType} {rm : Room} {cs : Nat × Nat} {A : zA} {m : zM} {pc : Nat} {lv : zLv} {st : List Value} {k : Nat} {x : Int} (X : zOK E cc own nL ret rm) (hd : decode cc pc = .ok (.istore k, 2)) (lv1 : Int → zLv) (hi : k < nL) (hlv : ∀ y, zs1 lv k (vi y) = lv1 y) (kk : ∀ y : Int, y = x → zW E cs A m (pc + 2) (lv1 y) (st)) : zW E cs A m pc lv (vi x :: st) := by
  obtain ⟨p, l, e, R, s, mm, args, below, meth, c, D, B, Q⟩ := E
  obtain ⟨hx, hb, hml, hown, hts, hK, hB, hr, hlk, hR0⟩ := X
  intro H locs ls hR hS hL hn
  refine lv_istore hx hb hd hL.has (by rw [hn, hml]; exact hi) rfl (fun ls' hl' => ?_)
  refine kk x rfl H locs ls' hR hS ?_ (by rw [← hlv]; simp [zs1, zclr_len, hn])
  rw [← hlv]
  exact zL.s1 rfl (by rw [hn, hml]; exact hi) rfl hl'

theorem z_lstore_n {E : zCx} {cc : ByteArray} {own : String} {nL : Nat} {ret : Option FieldType} {rm : Room} {cs : Nat × Nat} {A : zA} {m : zM} {pc : Nat} {lv : zLv} {st : List Value} {k : Fin 4} {x : Int} (X : zOK E cc own nL ret rm) (hd : decode cc pc = .ok (.lstore_n k, 1)) (lv1 : Int → zLv) (hi : (k : Nat) + 1 < nL) (hlv : ∀ y, zs2 lv (k : Nat) (vl y) = lv1 y) (kk : ∀ y : Int, y = x → zW E cs A m (pc + 1) (lv1 y) (st)) : zW E cs A m pc lv (vl x :: st) := by
  obtain ⟨p, l, e, R, s, mm, args, below, meth, c, D, B, Q⟩ := E
  obtain ⟨hx, hb, hml, hown, hts, hK, hB, hr, hlk, hR0⟩ := X
  intro H locs ls hR hS hL hn
  refine lv_lstore_n hx hb hd rfl hL.has (by rw [hn, hml]; exact hi) rfl (fun ls' hl' => ?_)
  refine kk x rfl H locs ls' hR hS ?_ (by rw [← hlv]; simp [zs2, zs1, zclr_len, hn])
  rw [← hlv]
  exact zL.s2 rfl (by rw [hn, hml]; exact hi) rfl hl'

theorem z_lstore {E : zCx} {cc : ByteArray} {own : String} {nL : Nat} {ret : Option FieldType} {rm : Room} {cs : Nat × Nat} {A : zA} {m : zM} {pc : Nat} {lv : zLv} {st : List Value} {k : Nat} {x : Int} (X : zOK E cc own nL ret rm) (hd : decode cc pc = .ok (.lstore k, 2)) (lv1 : Int → zLv) (hi : k + 1 < nL) (hlv : ∀ y, zs2 lv k (vl y) = lv1 y) (kk : ∀ y : Int, y = x → zW E cs A m (pc + 2) (lv1 y) (st)) : zW E cs A m pc lv (vl x :: st) := by
  obtain ⟨p, l, e, R, s, mm, args, below, meth, c, D, B, Q⟩ := E
  obtain ⟨hx, hb, hml, hown, hts, hK, hB, hr, hlk, hR0⟩ := X
  intro H locs ls hR hS hL hn
  refine lv_lstore hx hb hd hL.has (by rw [hn, hml]; exact hi) rfl (fun ls' hl' => ?_)
  refine kk x rfl H locs ls' hR hS ?_ (by rw [← hlv]; simp [zs2, zs1, zclr_len, hn])
  rw [← hlv]
  exact zL.s2 rfl (by rw [hn, hml]; exact hi) rfl hl'

theorem z_astore_n {E : zCx} {cc : ByteArray} {own : String} {nL : Nat} {ret : Option FieldType} {rm : Room} {cs : Nat × Nat} {A : zA} {m : zM} {pc : Nat} {lv : zLv} {st : List Value} {k : Fin 4} {a : Nat} (X : zOK E cc own nL ret rm) (hd : decode cc pc = .ok (.astore_n k, 1)) (lv1 : zLv) (hi : (k : Nat) < nL) (hlv : zs1 lv (k : Nat) (vr a) = lv1) (kk : zW E cs A m (pc + 1) lv1 (st)) : zW E cs A m pc lv (vr a :: st) := by
  obtain ⟨p, l, e, R, s, mm, args, below, meth, c, D, B, Q⟩ := E
  obtain ⟨hx, hb, hml, hown, hts, hK, hB, hr, hlk, hR0⟩ := X
  intro H locs ls hR hS hL hn
  refine lv_astore_n hx hb hd rfl hL.has (by rw [hn, hml]; exact hi) rfl (fun ls' hl' => ?_)
  refine kk H locs ls' hR hS ?_ (by rw [← hlv]; simp [zs1, zclr_len, hn])
  rw [← hlv]
  exact zL.s1 rfl (by rw [hn, hml]; exact hi) rfl hl'

theorem z_astore_nN {E : zCx} {cc : ByteArray} {own : String} {nL : Nat} {ret : Option FieldType} {rm : Room} {cs : Nat × Nat} {A : zA} {m : zM} {pc : Nat} {lv : zLv} {st : List Value} {k : Fin 4}  (X : zOK E cc own nL ret rm) (hd : decode cc pc = .ok (.astore_n k, 1)) (lv1 : zLv) (hi : (k : Nat) < nL) (hlv : zs1 lv (k : Nat) (.null) = lv1) (kk : zW E cs A m (pc + 1) lv1 (st)) : zW E cs A m pc lv (.null :: st) := by
  obtain ⟨p, l, e, R, s, mm, args, below, meth, c, D, B, Q⟩ := E
  obtain ⟨hx, hb, hml, hown, hts, hK, hB, hr, hlk, hR0⟩ := X
  intro H locs ls hR hS hL hn
  refine lv_astore_nN hx hb hd rfl hL.has (by rw [hn, hml]; exact hi) rfl (fun ls' hl' => ?_)
  refine kk H locs ls' hR hS ?_ (by rw [← hlv]; simp [zs1, zclr_len, hn])
  rw [← hlv]
  exact zL.s1 rfl (by rw [hn, hml]; exact hi) rfl hl'

theorem z_astore {E : zCx} {cc : ByteArray} {own : String} {nL : Nat} {ret : Option FieldType} {rm : Room} {cs : Nat × Nat} {A : zA} {m : zM} {pc : Nat} {lv : zLv} {st : List Value} {k : Nat} {a : Nat} (X : zOK E cc own nL ret rm) (hd : decode cc pc = .ok (.astore k, 2)) (lv1 : zLv) (hi : k < nL) (hlv : zs1 lv k (vr a) = lv1) (kk : zW E cs A m (pc + 2) lv1 (st)) : zW E cs A m pc lv (vr a :: st) := by
  obtain ⟨p, l, e, R, s, mm, args, below, meth, c, D, B, Q⟩ := E
  obtain ⟨hx, hb, hml, hown, hts, hK, hB, hr, hlk, hR0⟩ := X
  intro H locs ls hR hS hL hn
  refine lv_astore hx hb hd hL.has (by rw [hn, hml]; exact hi) rfl (fun ls' hl' => ?_)
  refine kk H locs ls' hR hS ?_ (by rw [← hlv]; simp [zs1, zclr_len, hn])
  rw [← hlv]
  exact zL.s1 rfl (by rw [hn, hml]; exact hi) rfl hl'

theorem z_astoreN {E : zCx} {cc : ByteArray} {own : String} {nL : Nat} {ret : Option FieldType} {rm : Room} {cs : Nat × Nat} {A : zA} {m : zM} {pc : Nat} {lv : zLv} {st : List Value} {k : Nat}  (X : zOK E cc own nL ret rm) (hd : decode cc pc = .ok (.astore k, 2)) (lv1 : zLv) (hi : k < nL) (hlv : zs1 lv k (.null) = lv1) (kk : zW E cs A m (pc + 2) lv1 (st)) : zW E cs A m pc lv (.null :: st) := by
  obtain ⟨p, l, e, R, s, mm, args, below, meth, c, D, B, Q⟩ := E
  obtain ⟨hx, hb, hml, hown, hts, hK, hB, hr, hlk, hR0⟩ := X
  intro H locs ls hR hS hL hn
  refine lv_astoreN hx hb hd hL.has (by rw [hn, hml]; exact hi) rfl (fun ls' hl' => ?_)
  refine kk H locs ls' hR hS ?_ (by rw [← hlv]; simp [zs1, zclr_len, hn])
  rw [← hlv]
  exact zL.s1 rfl (by rw [hn, hml]; exact hi) rfl hl'

theorem z_iinc {E : zCx} {cc : ByteArray} {own : String} {nL : Nat} {ret : Option FieldType} {rm : Room} {cs : Nat × Nat} {A : zA} {m : zM} {pc : Nat} {lv : zLv} {st : List Value} {k : Nat} {n x : Int} (X : zOK E cc own nL ret rm) (hd : decode cc pc = .ok (.iinc k n, 3)) (hl : lv[k]? = some (some (vi x))) (lv1 : Int → zLv) (hlv : ∀ y, zs1 lv k (vi y) = lv1 y) (kk : ∀ y : Int, y = x + n → zW E cs A m (pc + 3) (lv1 y) (st)) : zW E cs A m pc lv (st) := by
  obtain ⟨p, l, e, R, s, mm, args, below, meth, c, D, B, Q⟩ := E
  obtain ⟨hx, hb, hml, hown, hts, hK, hB, hr, hlk, hR0⟩ := X
  intro H locs ls hR hS hL hn
  have hk : k < lv.length := (List.getElem?_eq_some_iff.mp hl).1
  obtain ⟨i, hi⟩ := List.getElem?_of_mem (zas_mem.mpr hl)
  refine lv_iinc (v := Int32.ofInt (x + n)) hx hb hd hL.has hi (by rw [Int32.ofInt_add]) hk rfl (fun ls' hl' => ?_)
  refine kk (x + n) rfl H locs ls' hR hS ?_ (by rw [← hlv]; simp [zs1, zclr_len, hn])
  rw [← hlv]
  exact zL.s1 rfl hk rfl hl'

theorem z_iadd {E : zCx} {cc : ByteArray} {own : String} {nL : Nat} {ret : Option FieldType} {rm : Room} {cs : Nat × Nat} {A : zA} {m : zM} {pc : Nat} {lv : zLv} {st : List Value} {a b : Int} (X : zOK E cc own nL ret rm) (hd : decode cc pc = .ok (.iadd, 1)) (kk : zW E cs A m (pc + 1) lv (vi (a + b) :: st)) : zW E cs A m pc lv (vi b :: vi a :: st) := by
  obtain ⟨p, l, e, R, s, mm, args, below, meth, c, D, B, Q⟩ := E
  obtain ⟨hx, hb, hml, hown, hts, hK, hB, hr, hlk, hR0⟩ := X
  intro H locs ls hR hS hL hn
  refine lv_iadd hx hb hd ?_
  rw [← Int32.ofInt_add]
  exact kk H locs ls hR hS hL hn

theorem z_isub {E : zCx} {cc : ByteArray} {own : String} {nL : Nat} {ret : Option FieldType} {rm : Room} {cs : Nat × Nat} {A : zA} {m : zM} {pc : Nat} {lv : zLv} {st : List Value} {a b : Int} (X : zOK E cc own nL ret rm) (hd : decode cc pc = .ok (.isub, 1)) (kk : zW E cs A m (pc + 1) lv (vi (a - b) :: st)) : zW E cs A m pc lv (vi b :: vi a :: st) := by
  obtain ⟨p, l, e, R, s, mm, args, below, meth, c, D, B, Q⟩ := E
  obtain ⟨hx, hb, hml, hown, hts, hK, hB, hr, hlk, hR0⟩ := X
  intro H locs ls hR hS hL hn
  refine lv_isub hx hb hd ?_
  rw [← Int32.ofInt_sub]
  exact kk H locs ls hR hS hL hn

theorem z_imul {E : zCx} {cc : ByteArray} {own : String} {nL : Nat} {ret : Option FieldType} {rm : Room} {cs : Nat × Nat} {A : zA} {m : zM} {pc : Nat} {lv : zLv} {st : List Value} {a b : Int} (X : zOK E cc own nL ret rm) (hd : decode cc pc = .ok (.imul, 1)) (kk : zW E cs A m (pc + 1) lv (vi (a * b) :: st)) : zW E cs A m pc lv (vi b :: vi a :: st) := by
  obtain ⟨p, l, e, R, s, mm, args, below, meth, c, D, B, Q⟩ := E
  obtain ⟨hx, hb, hml, hown, hts, hK, hB, hr, hlk, hR0⟩ := X
  intro H locs ls hR hS hL hn
  refine lv_imul hx hb hd ?_
  rw [← Int32.ofInt_mul]
  exact kk H locs ls hR hS hL hn

theorem z_ladd {E : zCx} {cc : ByteArray} {own : String} {nL : Nat} {ret : Option FieldType} {rm : Room} {cs : Nat × Nat} {A : zA} {m : zM} {pc : Nat} {lv : zLv} {st : List Value} {a b : Int} (X : zOK E cc own nL ret rm) (hd : decode cc pc = .ok (.ladd, 1)) (kk : zW E cs A m (pc + 1) lv (vl (a + b) :: st)) : zW E cs A m pc lv (vl b :: vl a :: st) := by
  obtain ⟨p, l, e, R, s, mm, args, below, meth, c, D, B, Q⟩ := E
  obtain ⟨hx, hb, hml, hown, hts, hK, hB, hr, hlk, hR0⟩ := X
  intro H locs ls hR hS hL hn
  refine lv_ladd hx hb hd ?_
  rw [← Int64.ofInt_add]
  exact kk H locs ls hR hS hL hn

theorem z_lsub {E : zCx} {cc : ByteArray} {own : String} {nL : Nat} {ret : Option FieldType} {rm : Room} {cs : Nat × Nat} {A : zA} {m : zM} {pc : Nat} {lv : zLv} {st : List Value} {a b : Int} (X : zOK E cc own nL ret rm) (hd : decode cc pc = .ok (.lsub, 1)) (kk : zW E cs A m (pc + 1) lv (vl (a - b) :: st)) : zW E cs A m pc lv (vl b :: vl a :: st) := by
  obtain ⟨p, l, e, R, s, mm, args, below, meth, c, D, B, Q⟩ := E
  obtain ⟨hx, hb, hml, hown, hts, hK, hB, hr, hlk, hR0⟩ := X
  intro H locs ls hR hS hL hn
  refine lv_lsub hx hb hd ?_
  rw [← Int64.ofInt_sub]
  exact kk H locs ls hR hS hL hn

theorem z_lmul {E : zCx} {cc : ByteArray} {own : String} {nL : Nat} {ret : Option FieldType} {rm : Room} {cs : Nat × Nat} {A : zA} {m : zM} {pc : Nat} {lv : zLv} {st : List Value} {a b : Int} (X : zOK E cc own nL ret rm) (hd : decode cc pc = .ok (.lmul, 1)) (kk : zW E cs A m (pc + 1) lv (vl (a * b) :: st)) : zW E cs A m pc lv (vl b :: vl a :: st) := by
  obtain ⟨p, l, e, R, s, mm, args, below, meth, c, D, B, Q⟩ := E
  obtain ⟨hx, hb, hml, hown, hts, hK, hB, hr, hlk, hR0⟩ := X
  intro H locs ls hR hS hL hn
  refine lv_lmul hx hb hd ?_
  rw [← Int64.ofInt_mul]
  exact kk H locs ls hR hS hL hn

theorem z_idiv {E : zCx} {cc : ByteArray} {own : String} {nL : Nat} {ret : Option FieldType} {rm : Room} {cs : Nat × Nat} {A : zA} {m : zM} {pc : Nat} {lv : zLv} {st : List Value} {a b : Int} (X : zOK E cc own nL ret rm) (hd : decode cc pc = .ok (.idiv, 1)) (ra : 0 ≤ a ∧ a < 2147483648 := by omega) (rb : 0 < b ∧ b < 2147483648 := by omega) (kk : zW E cs A m (pc + 1) lv (vi (a / b) :: st)) : zW E cs A m pc lv (vi b :: vi a :: st) := by
  obtain ⟨p, l, e, R, s, mm, args, below, meth, c, D, B, Q⟩ := E
  obtain ⟨hx, hb, hml, hown, hts, hK, hB, hr, hlk, hR0⟩ := X
  intro H locs ls hR hS hL hn
  refine lv_idiv hx hb hd (by rw [show (0 : Int32) = Int32.ofInt 0 from rfl, zI_eq (by omega) (by omega)]; omega) ?_
  rw [zI_div a b ra rb]
  exact kk H locs ls hR hS hL hn

theorem z_irem {E : zCx} {cc : ByteArray} {own : String} {nL : Nat} {ret : Option FieldType} {rm : Room} {cs : Nat × Nat} {A : zA} {m : zM} {pc : Nat} {lv : zLv} {st : List Value} {a b : Int} (X : zOK E cc own nL ret rm) (hd : decode cc pc = .ok (.irem, 1)) (ra : 0 ≤ a ∧ a < 2147483648 := by omega) (rb : 0 < b ∧ b < 2147483648 := by omega) (kk : zW E cs A m (pc + 1) lv (vi (a % b) :: st)) : zW E cs A m pc lv (vi b :: vi a :: st) := by
  obtain ⟨p, l, e, R, s, mm, args, below, meth, c, D, B, Q⟩ := E
  obtain ⟨hx, hb, hml, hown, hts, hK, hB, hr, hlk, hR0⟩ := X
  intro H locs ls hR hS hL hn
  refine lv_irem hx hb hd (by rw [show (0 : Int32) = Int32.ofInt 0 from rfl, zI_eq (by omega) (by omega)]; omega) ?_
  have hrem : a % b = a - a / b * b := by rw [Int.emod_def, Int.mul_comm]
  rw [zI_div a b ra rb, ← Int32.ofInt_mul, ← Int32.ofInt_sub, ← hrem]
  exact kk H locs ls hR hS hL hn

theorem z_ldiv {E : zCx} {cc : ByteArray} {own : String} {nL : Nat} {ret : Option FieldType} {rm : Room} {cs : Nat × Nat} {A : zA} {m : zM} {pc : Nat} {lv : zLv} {st : List Value} {a b : Int} (X : zOK E cc own nL ret rm) (hd : decode cc pc = .ok (.ldiv, 1)) (ra : 0 ≤ a ∧ a < 9223372036854775808 := by omega) (rb : 0 < b ∧ b < 9223372036854775808 := by omega) (kk : zW E cs A m (pc + 1) lv (vl (a / b) :: st)) : zW E cs A m pc lv (vl b :: vl a :: st) := by
  obtain ⟨p, l, e, R, s, mm, args, below, meth, c, D, B, Q⟩ := E
  obtain ⟨hx, hb, hml, hown, hts, hK, hB, hr, hlk, hR0⟩ := X
  intro H locs ls hR hS hL hn
  refine lv_ldiv hx hb hd (by rw [show (0 : Int64) = Int64.ofInt 0 from rfl, zL_eq (by omega) (by omega)]; omega) ?_
  rw [zL_div a b ra rb]
  exact kk H locs ls hR hS hL hn

theorem z_lrem {E : zCx} {cc : ByteArray} {own : String} {nL : Nat} {ret : Option FieldType} {rm : Room} {cs : Nat × Nat} {A : zA} {m : zM} {pc : Nat} {lv : zLv} {st : List Value} {a b : Int} (X : zOK E cc own nL ret rm) (hd : decode cc pc = .ok (.lrem, 1)) (ra : 0 ≤ a ∧ a < 9223372036854775808 := by omega) (rb : 0 < b ∧ b < 9223372036854775808 := by omega) (kk : zW E cs A m (pc + 1) lv (vl (a % b) :: st)) : zW E cs A m pc lv (vl b :: vl a :: st) := by
  obtain ⟨p, l, e, R, s, mm, args, below, meth, c, D, B, Q⟩ := E
  obtain ⟨hx, hb, hml, hown, hts, hK, hB, hr, hlk, hR0⟩ := X
  intro H locs ls hR hS hL hn
  refine lv_lrem hx hb hd (by rw [show (0 : Int64) = Int64.ofInt 0 from rfl, zL_eq (by omega) (by omega)]; omega) ?_
  have hrem : a % b = a - a / b * b := by rw [Int.emod_def, Int.mul_comm]
  rw [zL_div a b ra rb, ← Int64.ofInt_mul, ← Int64.ofInt_sub, ← hrem]
  exact kk H locs ls hR hS hL hn

theorem z_iand {E : zCx} {cc : ByteArray} {own : String} {nL : Nat} {ret : Option FieldType} {rm : Room} {cs : Nat × Nat} {A : zA} {m : zM} {pc : Nat} {lv : zLv} {st : List Value} {a M : Int} (X : zOK E cc own nL ret rm) (hd : decode cc pc = .ok (.iand, 1)) (k : Nat) (hk : k < 32) (hM : ((2 ^ k : Nat) : Int) = M + 1) (P : Int) (hP : M + 1 = P) (kk : zW E cs A m (pc + 1) lv (vi (a % P) :: st)) : zW E cs A m pc lv (vi M :: vi a :: st) := by
  obtain ⟨p, l, e, R, s, mm, args, below, meth, c, D, B, Q⟩ := E
  obtain ⟨hx, hb, hml, hown, hts, hK, hB, hr, hlk, hR0⟩ := X
  intro H locs ls hR hS hL hn
  subst hP
  refine lv_iand hx hb hd ?_
  rw [zI_and a M k hk hM]
  exact kk H locs ls hR hS hL hn

theorem z_land {E : zCx} {cc : ByteArray} {own : String} {nL : Nat} {ret : Option FieldType} {rm : Room} {cs : Nat × Nat} {A : zA} {m : zM} {pc : Nat} {lv : zLv} {st : List Value} {a M : Int} (X : zOK E cc own nL ret rm) (hd : decode cc pc = .ok (.land, 1)) (k : Nat) (hk : k < 64) (hM : ((2 ^ k : Nat) : Int) = M + 1) (P : Int) (hP : M + 1 = P) (kk : zW E cs A m (pc + 1) lv (vl (a % P) :: st)) : zW E cs A m pc lv (vl M :: vl a :: st) := by
  obtain ⟨p, l, e, R, s, mm, args, below, meth, c, D, B, Q⟩ := E
  obtain ⟨hx, hb, hml, hown, hts, hK, hB, hr, hlk, hR0⟩ := X
  intro H locs ls hR hS hL hn
  subst hP
  refine lv_land hx hb hd ?_
  rw [zL_and a M k hk hM]
  exact kk H locs ls hR hS hL hn

theorem z_ishr {E : zCx} {cc : ByteArray} {own : String} {nL : Nat} {ret : Option FieldType} {rm : Room} {cs : Nat × Nat} {A : zA} {m : zM} {pc : Nat} {lv : zLv} {st : List Value} {a b : Int} (X : zOK E cc own nL ret rm) (hd : decode cc pc = .ok (.ishr, 1)) (k : Nat) (P : Int) (hk : b = (k : Int)) (hlt : k < 32) (hP : ((2 ^ k : Nat) : Int) = P) (ra : -2147483648 ≤ a ∧ a < 2147483648 := by omega) (kk : zW E cs A m (pc + 1) lv (vi (a / P) :: st)) : zW E cs A m pc lv (vi b :: vi a :: st) := by
  obtain ⟨p, l, e, R, s, mm, args, below, meth, c, D, B, Q⟩ := E
  obtain ⟨hx, hb, hml, hown, hts, hK, hB, hr, hlk, hR0⟩ := X
  intro H locs ls hR hS hL hn
  subst hk
  subst hP
  refine lv_ishr hx hb hd ?_
  rw [zI_shr a k hlt ra]
  exact kk H locs ls hR hS hL hn

theorem z_iushr {E : zCx} {cc : ByteArray} {own : String} {nL : Nat} {ret : Option FieldType} {rm : Room} {cs : Nat × Nat} {A : zA} {m : zM} {pc : Nat} {lv : zLv} {st : List Value} {a b : Int} (X : zOK E cc own nL ret rm) (hd : decode cc pc = .ok (.iushr, 1)) (k : Nat) (P : Int) (hk : b = (k : Int)) (hlt : k < 32) (hP : ((2 ^ k : Nat) : Int) = P) (ra : 0 ≤ a ∧ a < 4294967296 := by omega) (kk : zW E cs A m (pc + 1) lv (vi (a / P) :: st)) : zW E cs A m pc lv (vi b :: vi a :: st) := by
  obtain ⟨p, l, e, R, s, mm, args, below, meth, c, D, B, Q⟩ := E
  obtain ⟨hx, hb, hml, hown, hts, hK, hB, hr, hlk, hR0⟩ := X
  intro H locs ls hR hS hL hn
  subst hk
  subst hP
  exact lv_iushr hx hb hd (zI_ushr a k hlt ra) (kk H locs ls hR hS hL hn)

theorem z_ishl {E : zCx} {cc : ByteArray} {own : String} {nL : Nat} {ret : Option FieldType} {rm : Room} {cs : Nat × Nat} {A : zA} {m : zM} {pc : Nat} {lv : zLv} {st : List Value} {a b : Int} (X : zOK E cc own nL ret rm) (hd : decode cc pc = .ok (.ishl, 1)) (k : Nat) (P : Int) (hk : b = (k : Int)) (hlt : k < 32) (hP : ((2 ^ k : Nat) : Int) = P)  (kk : zW E cs A m (pc + 1) lv (vi (a * P) :: st)) : zW E cs A m pc lv (vi b :: vi a :: st) := by
  obtain ⟨p, l, e, R, s, mm, args, below, meth, c, D, B, Q⟩ := E
  obtain ⟨hx, hb, hml, hown, hts, hK, hB, hr, hlk, hR0⟩ := X
  intro H locs ls hR hS hL hn
  subst hk
  subst hP
  refine lv_ishl hx hb hd ?_
  rw [zI_shl a k hlt]
  exact kk H locs ls hR hS hL hn

theorem z_lshr {E : zCx} {cc : ByteArray} {own : String} {nL : Nat} {ret : Option FieldType} {rm : Room} {cs : Nat × Nat} {A : zA} {m : zM} {pc : Nat} {lv : zLv} {st : List Value} {a b : Int} (X : zOK E cc own nL ret rm) (hd : decode cc pc = .ok (.lshr, 1)) (k : Nat) (P : Int) (hk : b = (k : Int)) (hlt : k < 64) (hP : ((2 ^ k : Nat) : Int) = P) (ra : -9223372036854775808 ≤ a ∧ a < 9223372036854775808 := by omega) (kk : zW E cs A m (pc + 1) lv (vl (a / P) :: st)) : zW E cs A m pc lv (vi b :: vl a :: st) := by
  obtain ⟨p, l, e, R, s, mm, args, below, meth, c, D, B, Q⟩ := E
  obtain ⟨hx, hb, hml, hown, hts, hK, hB, hr, hlk, hR0⟩ := X
  intro H locs ls hR hS hL hn
  subst hk
  subst hP
  exact lv_lshr hx hb hd (zL_shr a k hlt ra) (kk H locs ls hR hS hL hn)

theorem z_lushr {E : zCx} {cc : ByteArray} {own : String} {nL : Nat} {ret : Option FieldType} {rm : Room} {cs : Nat × Nat} {A : zA} {m : zM} {pc : Nat} {lv : zLv} {st : List Value} {a b : Int} (X : zOK E cc own nL ret rm) (hd : decode cc pc = .ok (.lushr, 1)) (k : Nat) (P : Int) (hk : b = (k : Int)) (hlt : k < 64) (hP : ((2 ^ k : Nat) : Int) = P) (ra : 0 ≤ a ∧ a < 18446744073709551616 := by omega) (kk : zW E cs A m (pc + 1) lv (vl (a / P) :: st)) : zW E cs A m pc lv (vi b :: vl a :: st) := by
  obtain ⟨p, l, e, R, s, mm, args, below, meth, c, D, B, Q⟩ := E
  obtain ⟨hx, hb, hml, hown, hts, hK, hB, hr, hlk, hR0⟩ := X
  intro H locs ls hR hS hL hn
  subst hk
  subst hP
  exact lv_lushr hx hb hd (zL_ushr a k hlt ra) (kk H locs ls hR hS hL hn)

theorem z_lshl {E : zCx} {cc : ByteArray} {own : String} {nL : Nat} {ret : Option FieldType} {rm : Room} {cs : Nat × Nat} {A : zA} {m : zM} {pc : Nat} {lv : zLv} {st : List Value} {a b : Int} (X : zOK E cc own nL ret rm) (hd : decode cc pc = .ok (.lshl, 1)) (k : Nat) (P : Int) (hk : b = (k : Int)) (hlt : k < 64) (hP : ((2 ^ k : Nat) : Int) = P)  (kk : zW E cs A m (pc + 1) lv (vl (a * P) :: st)) : zW E cs A m pc lv (vi b :: vl a :: st) := by
  obtain ⟨p, l, e, R, s, mm, args, below, meth, c, D, B, Q⟩ := E
  obtain ⟨hx, hb, hml, hown, hts, hK, hB, hr, hlk, hR0⟩ := X
  intro H locs ls hR hS hL hn
  subst hk
  subst hP
  exact lv_lshl hx hb hd (zL_shl a k hlt) (kk H locs ls hR hS hL hn)

theorem z_lor {E : zCx} {cc : ByteArray} {own : String} {nL : Nat} {ret : Option FieldType} {rm : Room} {cs : Nat × Nat} {A : zA} {m : zM} {pc : Nat} {lv : zLv} {st : List Value} {a b : Int} (X : zOK E cc own nL ret rm) (hd : decode cc pc = .ok (.lor, 1)) (k : Nat) (x : Int) (hk : k < 64) (hx0 : a = x * ((2 ^ k : Nat) : Int)) (ha : 0 ≤ x ∧ x * ((2 ^ k : Nat) : Int) < 18446744073709551616) (hb0 : 0 ≤ b ∧ b < ((2 ^ k : Nat) : Int)) (kk : zW E cs A m (pc + 1) lv (vl (a + b) :: st)) : zW E cs A m pc lv (vl b :: vl a :: st) := by
  obtain ⟨p, l, e, R, s, mm, args, below, meth, c, D, B, Q⟩ := E
  obtain ⟨hx, hb, hml, hown, hts, hK, hB, hr, hlk, hR0⟩ := X
  intro H locs ls hR hS hL hn
  subst hx0
  refine lv_lor hx hb hd ?_
  rw [zL_or x b k hk ha hb0]
  exact kk H locs ls hR hS hL hn

theorem z_lor2 {E : zCx} {cc : ByteArray} {own : String} {nL : Nat} {ret : Option FieldType} {rm : Room} {cs : Nat × Nat} {A : zA} {m : zM} {pc : Nat} {lv : zLv} {st : List Value} {a b : Int} (X : zOK E cc own nL ret rm) (hd : decode cc pc = .ok (.lor, 1)) (k : Nat) (x : Int) (hk : k < 64) (hx0 : b = x * ((2 ^ k : Nat) : Int)) (hb0 : 0 ≤ x ∧ x * ((2 ^ k : Nat) : Int) < 18446744073709551616) (ha : 0 ≤ a ∧ a < ((2 ^ k : Nat) : Int)) (kk : zW E cs A m (pc + 1) lv (vl (a + b) :: st)) : zW E cs A m pc lv (vl b :: vl a :: st) := by
  obtain ⟨p, l, e, R, s, mm, args, below, meth, c, D, B, Q⟩ := E
  obtain ⟨hx, hb, hml, hown, hts, hK, hB, hr, hlk, hR0⟩ := X
  intro H locs ls hR hS hL hn
  subst hx0
  refine lv_lor hx hb hd ?_
  have h := zL_or x a k hk hb0 ha
  rw [Int64.or_comm, h, Int.add_comm]
  exact kk H locs ls hR hS hL hn

theorem z_lneg {E : zCx} {cc : ByteArray} {own : String} {nL : Nat} {ret : Option FieldType} {rm : Room} {cs : Nat × Nat} {A : zA} {m : zM} {pc : Nat} {lv : zLv} {st : List Value} {a : Int} (X : zOK E cc own nL ret rm) (hd : decode cc pc = .ok (.lneg, 1)) (kk : zW E cs A m (pc + 1) lv (vl (-a) :: st)) : zW E cs A m pc lv (vl a :: st) := by
  obtain ⟨p, l, e, R, s, mm, args, below, meth, c, D, B, Q⟩ := E
  obtain ⟨hx, hb, hml, hown, hts, hK, hB, hr, hlk, hR0⟩ := X
  intro H locs ls hR hS hL hn
  refine lv_lneg hx hb hd ?_
  rw [← Int64.ofInt_neg]
  exact kk H locs ls hR hS hL hn

theorem z_i2l {E : zCx} {cc : ByteArray} {own : String} {nL : Nat} {ret : Option FieldType} {rm : Room} {cs : Nat × Nat} {A : zA} {m : zM} {pc : Nat} {lv : zLv} {st : List Value} {a : Int} (X : zOK E cc own nL ret rm) (hd : decode cc pc = .ok (.i2l, 1)) (ra : -2147483648 ≤ a ∧ a < 2147483648 := by omega) (kk : zW E cs A m (pc + 1) lv (vl a :: st)) : zW E cs A m pc lv (vi a :: st) := by
  obtain ⟨p, l, e, R, s, mm, args, below, meth, c, D, B, Q⟩ := E
  obtain ⟨hx, hb, hml, hown, hts, hK, hB, hr, hlk, hR0⟩ := X
  intro H locs ls hR hS hL hn
  exact lv_i2l hx hb hd (zI_2l ra) (kk H locs ls hR hS hL hn)
theorem z_i2lu {E : zCx} {cc : ByteArray} {own : String} {nL : Nat} {ret : Option FieldType} {rm : Room} {cs : Nat × Nat} {A : zA} {m : zM} {pc : Nat} {lv : zLv} {st : List Value} {a : Int} (X : zOK E cc own nL ret rm) (hd : decode cc pc = .ok (.i2l, 1)) (kk : zW E cs A m (pc + 1) lv (vl (Int.bmod a 4294967296) :: st)) : zW E cs A m pc lv (vi a :: st) := by
  obtain ⟨p, l, e, R, s, mm, args, below, meth, c, D, B, Q⟩ := E
  obtain ⟨hx, hb, hml, hown, hts, hK, hB, hr, hlk, hR0⟩ := X
  intro H locs ls hR hS hL hn
  exact lv_i2l hx hb hd (zI_2l_bmod a) (kk H locs ls hR hS hL hn)
theorem z_l2i {E : zCx} {cc : ByteArray} {own : String} {nL : Nat} {ret : Option FieldType} {rm : Room} {cs : Nat × Nat} {A : zA} {m : zM} {pc : Nat} {lv : zLv} {st : List Value} {a : Int} (X : zOK E cc own nL ret rm) (hd : decode cc pc = .ok (.l2i, 1)) (kk : zW E cs A m (pc + 1) lv (vi a :: st)) : zW E cs A m pc lv (vl a :: st) := by
  obtain ⟨p, l, e, R, s, mm, args, below, meth, c, D, B, Q⟩ := E
  obtain ⟨hx, hb, hml, hown, hts, hK, hB, hr, hlk, hR0⟩ := X
  intro H locs ls hR hS hL hn
  exact lv_l2i hx hb hd (by rw [Int64.toInt32_ofInt]) (kk H locs ls hR hS hL hn)
theorem z_dup {E : zCx} {cc : ByteArray} {own : String} {nL : Nat} {ret : Option FieldType} {rm : Room} {cs : Nat × Nat} {A : zA} {m : zM} {pc : Nat} {lv : zLv} {st : List Value} {v : Value} (X : zOK E cc own nL ret rm) (hd : decode cc pc = .ok (.dup, 1)) (hv : v.category = 1 := by rfl) (kk : zW E cs A m (pc + 1) lv (v :: v :: st)) : zW E cs A m pc lv (v :: st) := by
  obtain ⟨p, l, e, R, s, mm, args, below, meth, c, D, B, Q⟩ := E
  obtain ⟨hx, hb, hml, hown, hts, hK, hB, hr, hlk, hR0⟩ := X
  intro H locs ls hR hS hL hn
  exact lv_dup hx hb hd hv (kk H locs ls hR hS hL hn)
theorem z_dup2 {E : zCx} {cc : ByteArray} {own : String} {nL : Nat} {ret : Option FieldType} {rm : Room} {cs : Nat × Nat} {A : zA} {m : zM} {pc : Nat} {lv : zLv} {st : List Value} {v w : Value} (X : zOK E cc own nL ret rm) (hd : decode cc pc = .ok (.dup2, 1)) (hv : v.category = 1 := by rfl) (hw : w.category = 1 := by rfl) (kk : zW E cs A m (pc + 1) lv (v :: w :: v :: w :: st)) : zW E cs A m pc lv (v :: w :: st) := by
  obtain ⟨p, l, e, R, s, mm, args, below, meth, c, D, B, Q⟩ := E
  obtain ⟨hx, hb, hml, hown, hts, hK, hB, hr, hlk, hR0⟩ := X
  intro H locs ls hR hS hL hn
  exact lv_dup2_11 hx hb hd hv hw (kk H locs ls hR hS hL hn)
theorem z_dup2l {E : zCx} {cc : ByteArray} {own : String} {nL : Nat} {ret : Option FieldType} {rm : Room} {cs : Nat × Nat} {A : zA} {m : zM} {pc : Nat} {lv : zLv} {st : List Value} {a : Int} (X : zOK E cc own nL ret rm) (hd : decode cc pc = .ok (.dup2, 1)) (kk : zW E cs A m (pc + 1) lv (vl a :: vl a :: st)) : zW E cs A m pc lv (vl a :: st) := by
  obtain ⟨p, l, e, R, s, mm, args, below, meth, c, D, B, Q⟩ := E
  obtain ⟨hx, hb, hml, hown, hts, hK, hB, hr, hlk, hR0⟩ := X
  intro H locs ls hR hS hL hn
  exact lv_dup2_2 hx hb hd rfl (kk H locs ls hR hS hL hn)
theorem z_icmp_eq {E : zCx} {cc : ByteArray} {own : String} {nL : Nat} {ret : Option FieldType} {rm : Room} {cs : Nat × Nat} {A : zA} {m : zM} {pc : Nat} {lv : zLv} {st : List Value} {a b : Int} {off : Int} (X : zOK E cc own nL ret rm) (hd : decode cc pc = .ok (.if_icmp .eq off, 3)) (tgt : Nat) (ht : (pc : Int) + off = (tgt : Int)) (ra : -2147483648 ≤ a ∧ a < 2147483648 := by omega) (rb : -2147483648 ≤ b ∧ b < 2147483648 := by omega) (k1 : a = b → zW E cs A m tgt lv (st)) (k2 : ¬ (a = b) → zW E cs A m (pc + 3) lv (st)) : zW E cs A m pc lv (vi b :: vi a :: st) := by
  obtain ⟨p, l, e, R, s, mm, args, below, meth, c, D, B, Q⟩ := E
  obtain ⟨hx, hb, hml, hown, hts, hK, hB, hr, hlk, hR0⟩ := X
  intro H locs ls hR hS hL hn
  exact lv_icmp_eq hx hb hd ht (fun h => k1 (by first | exact (zI_eq (by omega) (by omega)).mp h | exact fun q => h ((zI_eq (by omega) (by omega)).mpr q)) H locs ls hR hS hL hn) (fun h => k2 (by first | exact fun q => h ((zI_eq (by omega) (by omega)).mpr q) | exact fun q => q ((zI_eq (by omega) (by omega)).mp h) | exact fun q => h (fun r => q ((zI_eq (by omega) (by omega)).mp r))) H locs ls hR hS hL hn)
theorem z_if_eq {E : zCx} {cc : ByteArray} {own : String} {nL : Nat} {ret : Option FieldType} {rm : Room} {cs : Nat × Nat} {A : zA} {m : zM} {pc : Nat} {lv : zLv} {st : List Value} {a : Int} {off : Int} (X : zOK E cc own nL ret rm) (hd : decode cc pc = .ok (.ifCond .eq off, 3)) (tgt : Nat) (ht : (pc : Int) + off = (tgt : Int)) (ra : -2147483648 ≤ a ∧ a < 2147483648 := by omega) (k1 : a = 0 → zW E cs A m tgt lv (st)) (k2 : ¬ (a = 0) → zW E cs A m (pc + 3) lv (st)) : zW E cs A m pc lv (vi a :: st) := by
  obtain ⟨p, l, e, R, s, mm, args, below, meth, c, D, B, Q⟩ := E
  obtain ⟨hx, hb, hml, hown, hts, hK, hB, hr, hlk, hR0⟩ := X
  intro H locs ls hR hS hL hn
  exact lv_if_eq hx hb hd ht (fun h => k1 (by first | exact (zI_eq (by omega) (by omega)).mp h | exact fun q => h ((zI_eq (by omega) (by omega)).mpr q)) H locs ls hR hS hL hn) (fun h => k2 (by first | exact fun q => h ((zI_eq (by omega) (by omega)).mpr q) | exact fun q => q ((zI_eq (by omega) (by omega)).mp h) | exact fun q => h (fun r => q ((zI_eq (by omega) (by omega)).mp r))) H locs ls hR hS hL hn)
theorem z_lcmp_eq {E : zCx} {cc : ByteArray} {own : String} {nL : Nat} {ret : Option FieldType} {rm : Room} {cs : Nat × Nat} {A : zA} {m : zM} {pc : Nat} {lv : zLv} {st : List Value} {a b : Int} {off : Int} (X : zOK E cc own nL ret rm) (hd : decode cc pc = .ok (.lcmp, 1)) (hd2 : decode cc (pc + 1) = .ok (.ifCond .eq off, 3)) (tgt : Nat) (ht : ((pc + 1 : Nat) : Int) + off = (tgt : Int)) (ra : -9223372036854775808 ≤ a ∧ a < 9223372036854775808 := by omega) (rb : -9223372036854775808 ≤ b ∧ b < 9223372036854775808 := by omega) (k1 : a = b → zW E cs A m tgt lv (st)) (k2 : ¬ (a = b) → zW E cs A m (pc + 1 + 3) lv (st)) : zW E cs A m pc lv (vl b :: vl a :: st) := by
  obtain ⟨p, l, e, R, s, mm, args, below, meth, c, D, B, Q⟩ := E
  obtain ⟨hx, hb, hml, hown, hts, hK, hB, hr, hlk, hR0⟩ := X
  intro H locs ls hR hS hL hn
  refine W.lcmp hx hb hd ?_
  rw [zL_cmp a b ra rb]
  have hc : zcmp a b = 1 ∧ b < a ∨ zcmp a b = 0 ∧ a = b ∨ zcmp a b = -1 ∧ a < b := by unfold zcmp; split <;> (try split) <;> omega
  have X2 : zOK (p, l, e, R, s, mm, args, below, meth, c, D, B, Q) cc own nL ret rm := ⟨hx, hb, hml, hown, hts, hK, hB, hr, hlk, hR0⟩
  exact z_if_eq X2 hd2 tgt ht (by omega) (fun h => k1 (by omega)) (fun h => k2 (by omega)) H locs ls hR hS hL hn

theorem z_icmp_ne {E : zCx} {cc : ByteArray} {own : String} {nL : Nat} {ret : Option FieldType} {rm : Room} {cs : Nat × Nat} {A : zA} {m : zM} {pc : Nat} {lv : zLv} {st : List Value} {a b : Int} {off : Int} (X : zOK E cc own nL ret rm) (hd : decode cc pc = .ok (.if_icmp .ne off, 3)) (tgt : Nat) (ht : (pc : Int) + off = (tgt : Int)) (ra : -2147483648 ≤ a ∧ a < 2147483648 := by omega) (rb : -2147483648 ≤ b ∧ b < 2147483648 := by omega) (k1 : ¬ a = b → zW E cs A m tgt lv (st)) (k2 : ¬ (¬ a = b) → zW E cs A m (pc + 3) lv (st)) : zW E cs A m pc lv (vi b :: vi a :: st) := by
  obtain ⟨p, l, e, R, s, mm, args, below, meth, c, D, B, Q⟩ := E
  obtain ⟨hx, hb, hml, hown, hts, hK, hB, hr, hlk, hR0⟩ := X
  intro H locs ls hR hS hL hn
  exact lv_icmp_ne hx hb hd ht (fun h => k1 (by first | exact (zI_eq (by omega) (by omega)).mp h | exact fun q => h ((zI_eq (by omega) (by omega)).mpr q)) H locs ls hR hS hL hn) (fun h => k2 (by first | exact fun q => h ((zI_eq (by omega) (by omega)).mpr q) | exact fun q => q ((zI_eq (by omega) (by omega)).mp h) | exact fun q => h (fun r => q ((zI_eq (by omega) (by omega)).mp r))) H locs ls hR hS hL hn)
theorem z_if_ne {E : zCx} {cc : ByteArray} {own : String} {nL : Nat} {ret : Option FieldType} {rm : Room} {cs : Nat × Nat} {A : zA} {m : zM} {pc : Nat} {lv : zLv} {st : List Value} {a : Int} {off : Int} (X : zOK E cc own nL ret rm) (hd : decode cc pc = .ok (.ifCond .ne off, 3)) (tgt : Nat) (ht : (pc : Int) + off = (tgt : Int)) (ra : -2147483648 ≤ a ∧ a < 2147483648 := by omega) (k1 : ¬ a = 0 → zW E cs A m tgt lv (st)) (k2 : ¬ (¬ a = 0) → zW E cs A m (pc + 3) lv (st)) : zW E cs A m pc lv (vi a :: st) := by
  obtain ⟨p, l, e, R, s, mm, args, below, meth, c, D, B, Q⟩ := E
  obtain ⟨hx, hb, hml, hown, hts, hK, hB, hr, hlk, hR0⟩ := X
  intro H locs ls hR hS hL hn
  exact lv_if_ne hx hb hd ht (fun h => k1 (by first | exact (zI_eq (by omega) (by omega)).mp h | exact fun q => h ((zI_eq (by omega) (by omega)).mpr q)) H locs ls hR hS hL hn) (fun h => k2 (by first | exact fun q => h ((zI_eq (by omega) (by omega)).mpr q) | exact fun q => q ((zI_eq (by omega) (by omega)).mp h) | exact fun q => h (fun r => q ((zI_eq (by omega) (by omega)).mp r))) H locs ls hR hS hL hn)
theorem z_lcmp_ne {E : zCx} {cc : ByteArray} {own : String} {nL : Nat} {ret : Option FieldType} {rm : Room} {cs : Nat × Nat} {A : zA} {m : zM} {pc : Nat} {lv : zLv} {st : List Value} {a b : Int} {off : Int} (X : zOK E cc own nL ret rm) (hd : decode cc pc = .ok (.lcmp, 1)) (hd2 : decode cc (pc + 1) = .ok (.ifCond .ne off, 3)) (tgt : Nat) (ht : ((pc + 1 : Nat) : Int) + off = (tgt : Int)) (ra : -9223372036854775808 ≤ a ∧ a < 9223372036854775808 := by omega) (rb : -9223372036854775808 ≤ b ∧ b < 9223372036854775808 := by omega) (k1 : ¬ a = b → zW E cs A m tgt lv (st)) (k2 : ¬ (¬ a = b) → zW E cs A m (pc + 1 + 3) lv (st)) : zW E cs A m pc lv (vl b :: vl a :: st) := by
  obtain ⟨p, l, e, R, s, mm, args, below, meth, c, D, B, Q⟩ := E
  obtain ⟨hx, hb, hml, hown, hts, hK, hB, hr, hlk, hR0⟩ := X
  intro H locs ls hR hS hL hn
  refine W.lcmp hx hb hd ?_
  rw [zL_cmp a b ra rb]
  have hc : zcmp a b = 1 ∧ b < a ∨ zcmp a b = 0 ∧ a = b ∨ zcmp a b = -1 ∧ a < b := by unfold zcmp; split <;> (try split) <;> omega
  have X2 : zOK (p, l, e, R, s, mm, args, below, meth, c, D, B, Q) cc own nL ret rm := ⟨hx, hb, hml, hown, hts, hK, hB, hr, hlk, hR0⟩
  exact z_if_ne X2 hd2 tgt ht (by omega) (fun h => k1 (by omega)) (fun h => k2 (by omega)) H locs ls hR hS hL hn

theorem z_icmp_lt {E : zCx} {cc : ByteArray} {own : String} {nL : Nat} {ret : Option FieldType} {rm : Room} {cs : Nat × Nat} {A : zA} {m : zM} {pc : Nat} {lv : zLv} {st : List Value} {a b : Int} {off : Int} (X : zOK E cc own nL ret rm) (hd : decode cc pc = .ok (.if_icmp .lt off, 3)) (tgt : Nat) (ht : (pc : Int) + off = (tgt : Int)) (ra : -2147483648 ≤ a ∧ a < 2147483648 := by omega) (rb : -2147483648 ≤ b ∧ b < 2147483648 := by omega) (k1 : a < b → zW E cs A m tgt lv (st)) (k2 : ¬ (a < b) → zW E cs A m (pc + 3) lv (st)) : zW E cs A m pc lv (vi b :: vi a :: st) := by
  obtain ⟨p, l, e, R, s, mm, args, below, meth, c, D, B, Q⟩ := E
  obtain ⟨hx, hb, hml, hown, hts, hK, hB, hr, hlk, hR0⟩ := X
  intro H locs ls hR hS hL hn
  exact lv_icmp_lt hx hb hd ht (fun h => k1 (by first | exact (zI_lt (by omega) (by omega)).mp h | exact fun q => h ((zI_lt (by omega) (by omega)).mpr q)) H locs ls hR hS hL hn) (fun h => k2 (by first | exact fun q => h ((zI_lt (by omega) (by omega)).mpr q) | exact fun q => q ((zI_lt (by omega) (by omega)).mp h) | exact fun q => h (fun r => q ((zI_lt (by omega) (by omega)).mp r))) H locs ls hR hS hL hn)
theorem z_if_lt {E : zCx} {cc : ByteArray} {own : String} {nL : Nat} {ret : Option FieldType} {rm : Room} {cs : Nat × Nat} {A : zA} {m : zM} {pc : Nat} {lv : zLv} {st : List Value} {a : Int} {off : Int} (X : zOK E cc own nL ret rm) (hd : decode cc pc = .ok (.ifCond .lt off, 3)) (tgt : Nat) (ht : (pc : Int) + off = (tgt : Int)) (ra : -2147483648 ≤ a ∧ a < 2147483648 := by omega) (k1 : a < 0 → zW E cs A m tgt lv (st)) (k2 : ¬ (a < 0) → zW E cs A m (pc + 3) lv (st)) : zW E cs A m pc lv (vi a :: st) := by
  obtain ⟨p, l, e, R, s, mm, args, below, meth, c, D, B, Q⟩ := E
  obtain ⟨hx, hb, hml, hown, hts, hK, hB, hr, hlk, hR0⟩ := X
  intro H locs ls hR hS hL hn
  exact lv_if_lt hx hb hd ht (fun h => k1 (by first | exact (zI_lt (by omega) (by omega)).mp h | exact fun q => h ((zI_lt (by omega) (by omega)).mpr q)) H locs ls hR hS hL hn) (fun h => k2 (by first | exact fun q => h ((zI_lt (by omega) (by omega)).mpr q) | exact fun q => q ((zI_lt (by omega) (by omega)).mp h) | exact fun q => h (fun r => q ((zI_lt (by omega) (by omega)).mp r))) H locs ls hR hS hL hn)
theorem z_lcmp_lt {E : zCx} {cc : ByteArray} {own : String} {nL : Nat} {ret : Option FieldType} {rm : Room} {cs : Nat × Nat} {A : zA} {m : zM} {pc : Nat} {lv : zLv} {st : List Value} {a b : Int} {off : Int} (X : zOK E cc own nL ret rm) (hd : decode cc pc = .ok (.lcmp, 1)) (hd2 : decode cc (pc + 1) = .ok (.ifCond .lt off, 3)) (tgt : Nat) (ht : ((pc + 1 : Nat) : Int) + off = (tgt : Int)) (ra : -9223372036854775808 ≤ a ∧ a < 9223372036854775808 := by omega) (rb : -9223372036854775808 ≤ b ∧ b < 9223372036854775808 := by omega) (k1 : a < b → zW E cs A m tgt lv (st)) (k2 : ¬ (a < b) → zW E cs A m (pc + 1 + 3) lv (st)) : zW E cs A m pc lv (vl b :: vl a :: st) := by
  obtain ⟨p, l, e, R, s, mm, args, below, meth, c, D, B, Q⟩ := E
  obtain ⟨hx, hb, hml, hown, hts, hK, hB, hr, hlk, hR0⟩ := X
  intro H locs ls hR hS hL hn
  refine W.lcmp hx hb hd ?_
  rw [zL_cmp a b ra rb]
  have hc : zcmp a b = 1 ∧ b < a ∨ zcmp a b = 0 ∧ a = b ∨ zcmp a b = -1 ∧ a < b := by unfold zcmp; split <;> (try split) <;> omega
  have X2 : zOK (p, l, e, R, s, mm, args, below, meth, c, D, B, Q) cc own nL ret rm := ⟨hx, hb, hml, hown, hts, hK, hB, hr, hlk, hR0⟩
  exact z_if_lt X2 hd2 tgt ht (by omega) (fun h => k1 (by omega)) (fun h => k2 (by omega)) H locs ls hR hS hL hn

theorem z_icmp_ge {E : zCx} {cc : ByteArray} {own : String} {nL : Nat} {ret : Option FieldType} {rm : Room} {cs : Nat × Nat} {A : zA} {m : zM} {pc : Nat} {lv : zLv} {st : List Value} {a b : Int} {off : Int} (X : zOK E cc own nL ret rm) (hd : decode cc pc = .ok (.if_icmp .ge off, 3)) (tgt : Nat) (ht : (pc : Int) + off = (tgt : Int)) (ra : -2147483648 ≤ a ∧ a < 2147483648 := by omega) (rb : -2147483648 ≤ b ∧ b < 2147483648 := by omega) (k1 : b ≤ a → zW E cs A m tgt lv (st)) (k2 : ¬ (b ≤ a) → zW E cs A m (pc + 3) lv (st)) : zW E cs A m pc lv (vi b :: vi a :: st) := by
  obtain ⟨p, l, e, R, s, mm, args, below, meth, c, D, B, Q⟩ := E
  obtain ⟨hx, hb, hml, hown, hts, hK, hB, hr, hlk, hR0⟩ := X
  intro H locs ls hR hS hL hn
  exact lv_icmp_ge hx hb hd ht (fun h => k1 (by first | exact (zI_le (by omega) (by omega)).mp h | exact fun q => h ((zI_le (by omega) (by omega)).mpr q)) H locs ls hR hS hL hn) (fun h => k2 (by first | exact fun q => h ((zI_le (by omega) (by omega)).mpr q) | exact fun q => q ((zI_le (by omega) (by omega)).mp h) | exact fun q => h (fun r => q ((zI_le (by omega) (by omega)).mp r))) H locs ls hR hS hL hn)
theorem z_if_ge {E : zCx} {cc : ByteArray} {own : String} {nL : Nat} {ret : Option FieldType} {rm : Room} {cs : Nat × Nat} {A : zA} {m : zM} {pc : Nat} {lv : zLv} {st : List Value} {a : Int} {off : Int} (X : zOK E cc own nL ret rm) (hd : decode cc pc = .ok (.ifCond .ge off, 3)) (tgt : Nat) (ht : (pc : Int) + off = (tgt : Int)) (ra : -2147483648 ≤ a ∧ a < 2147483648 := by omega) (k1 : 0 ≤ a → zW E cs A m tgt lv (st)) (k2 : ¬ (0 ≤ a) → zW E cs A m (pc + 3) lv (st)) : zW E cs A m pc lv (vi a :: st) := by
  obtain ⟨p, l, e, R, s, mm, args, below, meth, c, D, B, Q⟩ := E
  obtain ⟨hx, hb, hml, hown, hts, hK, hB, hr, hlk, hR0⟩ := X
  intro H locs ls hR hS hL hn
  exact lv_if_ge hx hb hd ht (fun h => k1 (by first | exact (zI_le (by omega) (by omega)).mp h | exact fun q => h ((zI_le (by omega) (by omega)).mpr q)) H locs ls hR hS hL hn) (fun h => k2 (by first | exact fun q => h ((zI_le (by omega) (by omega)).mpr q) | exact fun q => q ((zI_le (by omega) (by omega)).mp h) | exact fun q => h (fun r => q ((zI_le (by omega) (by omega)).mp r))) H locs ls hR hS hL hn)
theorem z_lcmp_ge {E : zCx} {cc : ByteArray} {own : String} {nL : Nat} {ret : Option FieldType} {rm : Room} {cs : Nat × Nat} {A : zA} {m : zM} {pc : Nat} {lv : zLv} {st : List Value} {a b : Int} {off : Int} (X : zOK E cc own nL ret rm) (hd : decode cc pc = .ok (.lcmp, 1)) (hd2 : decode cc (pc + 1) = .ok (.ifCond .ge off, 3)) (tgt : Nat) (ht : ((pc + 1 : Nat) : Int) + off = (tgt : Int)) (ra : -9223372036854775808 ≤ a ∧ a < 9223372036854775808 := by omega) (rb : -9223372036854775808 ≤ b ∧ b < 9223372036854775808 := by omega) (k1 : b ≤ a → zW E cs A m tgt lv (st)) (k2 : ¬ (b ≤ a) → zW E cs A m (pc + 1 + 3) lv (st)) : zW E cs A m pc lv (vl b :: vl a :: st) := by
  obtain ⟨p, l, e, R, s, mm, args, below, meth, c, D, B, Q⟩ := E
  obtain ⟨hx, hb, hml, hown, hts, hK, hB, hr, hlk, hR0⟩ := X
  intro H locs ls hR hS hL hn
  refine W.lcmp hx hb hd ?_
  rw [zL_cmp a b ra rb]
  have hc : zcmp a b = 1 ∧ b < a ∨ zcmp a b = 0 ∧ a = b ∨ zcmp a b = -1 ∧ a < b := by unfold zcmp; split <;> (try split) <;> omega
  have X2 : zOK (p, l, e, R, s, mm, args, below, meth, c, D, B, Q) cc own nL ret rm := ⟨hx, hb, hml, hown, hts, hK, hB, hr, hlk, hR0⟩
  exact z_if_ge X2 hd2 tgt ht (by omega) (fun h => k1 (by omega)) (fun h => k2 (by omega)) H locs ls hR hS hL hn

theorem z_icmp_gt {E : zCx} {cc : ByteArray} {own : String} {nL : Nat} {ret : Option FieldType} {rm : Room} {cs : Nat × Nat} {A : zA} {m : zM} {pc : Nat} {lv : zLv} {st : List Value} {a b : Int} {off : Int} (X : zOK E cc own nL ret rm) (hd : decode cc pc = .ok (.if_icmp .gt off, 3)) (tgt : Nat) (ht : (pc : Int) + off = (tgt : Int)) (ra : -2147483648 ≤ a ∧ a < 2147483648 := by omega) (rb : -2147483648 ≤ b ∧ b < 2147483648 := by omega) (k1 : b < a → zW E cs A m tgt lv (st)) (k2 : ¬ (b < a) → zW E cs A m (pc + 3) lv (st)) : zW E cs A m pc lv (vi b :: vi a :: st) := by
  obtain ⟨p, l, e, R, s, mm, args, below, meth, c, D, B, Q⟩ := E
  obtain ⟨hx, hb, hml, hown, hts, hK, hB, hr, hlk, hR0⟩ := X
  intro H locs ls hR hS hL hn
  exact lv_icmp_gt hx hb hd ht (fun h => k1 (by first | exact (zI_lt (by omega) (by omega)).mp h | exact fun q => h ((zI_lt (by omega) (by omega)).mpr q)) H locs ls hR hS hL hn) (fun h => k2 (by first | exact fun q => h ((zI_lt (by omega) (by omega)).mpr q) | exact fun q => q ((zI_lt (by omega) (by omega)).mp h) | exact fun q => h (fun r => q ((zI_lt (by omega) (by omega)).mp r))) H locs ls hR hS hL hn)
theorem z_if_gt {E : zCx} {cc : ByteArray} {own : String} {nL : Nat} {ret : Option FieldType} {rm : Room} {cs : Nat × Nat} {A : zA} {m : zM} {pc : Nat} {lv : zLv} {st : List Value} {a : Int} {off : Int} (X : zOK E cc own nL ret rm) (hd : decode cc pc = .ok (.ifCond .gt off, 3)) (tgt : Nat) (ht : (pc : Int) + off = (tgt : Int)) (ra : -2147483648 ≤ a ∧ a < 2147483648 := by omega) (k1 : 0 < a → zW E cs A m tgt lv (st)) (k2 : ¬ (0 < a) → zW E cs A m (pc + 3) lv (st)) : zW E cs A m pc lv (vi a :: st) := by
  obtain ⟨p, l, e, R, s, mm, args, below, meth, c, D, B, Q⟩ := E
  obtain ⟨hx, hb, hml, hown, hts, hK, hB, hr, hlk, hR0⟩ := X
  intro H locs ls hR hS hL hn
  exact lv_if_gt hx hb hd ht (fun h => k1 (by first | exact (zI_lt (by omega) (by omega)).mp h | exact fun q => h ((zI_lt (by omega) (by omega)).mpr q)) H locs ls hR hS hL hn) (fun h => k2 (by first | exact fun q => h ((zI_lt (by omega) (by omega)).mpr q) | exact fun q => q ((zI_lt (by omega) (by omega)).mp h) | exact fun q => h (fun r => q ((zI_lt (by omega) (by omega)).mp r))) H locs ls hR hS hL hn)
theorem z_lcmp_gt {E : zCx} {cc : ByteArray} {own : String} {nL : Nat} {ret : Option FieldType} {rm : Room} {cs : Nat × Nat} {A : zA} {m : zM} {pc : Nat} {lv : zLv} {st : List Value} {a b : Int} {off : Int} (X : zOK E cc own nL ret rm) (hd : decode cc pc = .ok (.lcmp, 1)) (hd2 : decode cc (pc + 1) = .ok (.ifCond .gt off, 3)) (tgt : Nat) (ht : ((pc + 1 : Nat) : Int) + off = (tgt : Int)) (ra : -9223372036854775808 ≤ a ∧ a < 9223372036854775808 := by omega) (rb : -9223372036854775808 ≤ b ∧ b < 9223372036854775808 := by omega) (k1 : b < a → zW E cs A m tgt lv (st)) (k2 : ¬ (b < a) → zW E cs A m (pc + 1 + 3) lv (st)) : zW E cs A m pc lv (vl b :: vl a :: st) := by
  obtain ⟨p, l, e, R, s, mm, args, below, meth, c, D, B, Q⟩ := E
  obtain ⟨hx, hb, hml, hown, hts, hK, hB, hr, hlk, hR0⟩ := X
  intro H locs ls hR hS hL hn
  refine W.lcmp hx hb hd ?_
  rw [zL_cmp a b ra rb]
  have hc : zcmp a b = 1 ∧ b < a ∨ zcmp a b = 0 ∧ a = b ∨ zcmp a b = -1 ∧ a < b := by unfold zcmp; split <;> (try split) <;> omega
  have X2 : zOK (p, l, e, R, s, mm, args, below, meth, c, D, B, Q) cc own nL ret rm := ⟨hx, hb, hml, hown, hts, hK, hB, hr, hlk, hR0⟩
  exact z_if_gt X2 hd2 tgt ht (by omega) (fun h => k1 (by omega)) (fun h => k2 (by omega)) H locs ls hR hS hL hn

theorem z_icmp_le {E : zCx} {cc : ByteArray} {own : String} {nL : Nat} {ret : Option FieldType} {rm : Room} {cs : Nat × Nat} {A : zA} {m : zM} {pc : Nat} {lv : zLv} {st : List Value} {a b : Int} {off : Int} (X : zOK E cc own nL ret rm) (hd : decode cc pc = .ok (.if_icmp .le off, 3)) (tgt : Nat) (ht : (pc : Int) + off = (tgt : Int)) (ra : -2147483648 ≤ a ∧ a < 2147483648 := by omega) (rb : -2147483648 ≤ b ∧ b < 2147483648 := by omega) (k1 : a ≤ b → zW E cs A m tgt lv (st)) (k2 : ¬ (a ≤ b) → zW E cs A m (pc + 3) lv (st)) : zW E cs A m pc lv (vi b :: vi a :: st) := by
  obtain ⟨p, l, e, R, s, mm, args, below, meth, c, D, B, Q⟩ := E
  obtain ⟨hx, hb, hml, hown, hts, hK, hB, hr, hlk, hR0⟩ := X
  intro H locs ls hR hS hL hn
  exact lv_icmp_le hx hb hd ht (fun h => k1 (by first | exact (zI_le (by omega) (by omega)).mp h | exact fun q => h ((zI_le (by omega) (by omega)).mpr q)) H locs ls hR hS hL hn) (fun h => k2 (by first | exact fun q => h ((zI_le (by omega) (by omega)).mpr q) | exact fun q => q ((zI_le (by omega) (by omega)).mp h) | exact fun q => h (fun r => q ((zI_le (by omega) (by omega)).mp r))) H locs ls hR hS hL hn)
theorem z_if_le {E : zCx} {cc : ByteArray} {own : String} {nL : Nat} {ret : Option FieldType} {rm : Room} {cs : Nat × Nat} {A : zA} {m : zM} {pc : Nat} {lv : zLv} {st : List Value} {a : Int} {off : Int} (X : zOK E cc own nL ret rm) (hd : decode cc pc = .ok (.ifCond .le off, 3)) (tgt : Nat) (ht : (pc : Int) + off = (tgt : Int)) (ra : -2147483648 ≤ a ∧ a < 2147483648 := by omega) (k1 : a ≤ 0 → zW E cs A m tgt lv (st)) (k2 : ¬ (a ≤ 0) → zW E cs A m (pc + 3) lv (st)) : zW E cs A m pc lv (vi a :: st) := by
  obtain ⟨p, l, e, R, s, mm, args, below, meth, c, D, B, Q⟩ := E
  obtain ⟨hx, hb, hml, hown, hts, hK, hB, hr, hlk, hR0⟩ := X
  intro H locs ls hR hS hL hn
  exact lv_if_le hx hb hd ht (fun h => k1 (by first | exact (zI_le (by omega) (by omega)).mp h | exact fun q => h ((zI_le (by omega) (by omega)).mpr q)) H locs ls hR hS hL hn) (fun h => k2 (by first | exact fun q => h ((zI_le (by omega) (by omega)).mpr q) | exact fun q => q ((zI_le (by omega) (by omega)).mp h) | exact fun q => h (fun r => q ((zI_le (by omega) (by omega)).mp r))) H locs ls hR hS hL hn)
theorem z_lcmp_le {E : zCx} {cc : ByteArray} {own : String} {nL : Nat} {ret : Option FieldType} {rm : Room} {cs : Nat × Nat} {A : zA} {m : zM} {pc : Nat} {lv : zLv} {st : List Value} {a b : Int} {off : Int} (X : zOK E cc own nL ret rm) (hd : decode cc pc = .ok (.lcmp, 1)) (hd2 : decode cc (pc + 1) = .ok (.ifCond .le off, 3)) (tgt : Nat) (ht : ((pc + 1 : Nat) : Int) + off = (tgt : Int)) (ra : -9223372036854775808 ≤ a ∧ a < 9223372036854775808 := by omega) (rb : -9223372036854775808 ≤ b ∧ b < 9223372036854775808 := by omega) (k1 : a ≤ b → zW E cs A m tgt lv (st)) (k2 : ¬ (a ≤ b) → zW E cs A m (pc + 1 + 3) lv (st)) : zW E cs A m pc lv (vl b :: vl a :: st) := by
  obtain ⟨p, l, e, R, s, mm, args, below, meth, c, D, B, Q⟩ := E
  obtain ⟨hx, hb, hml, hown, hts, hK, hB, hr, hlk, hR0⟩ := X
  intro H locs ls hR hS hL hn
  refine W.lcmp hx hb hd ?_
  rw [zL_cmp a b ra rb]
  have hc : zcmp a b = 1 ∧ b < a ∨ zcmp a b = 0 ∧ a = b ∨ zcmp a b = -1 ∧ a < b := by unfold zcmp; split <;> (try split) <;> omega
  have X2 : zOK (p, l, e, R, s, mm, args, below, meth, c, D, B, Q) cc own nL ret rm := ⟨hx, hb, hml, hown, hts, hK, hB, hr, hlk, hR0⟩
  exact z_if_le X2 hd2 tgt ht (by omega) (fun h => k1 (by omega)) (fun h => k2 (by omega)) H locs ls hR hS hL hn

theorem z_goto {E : zCx} {cc : ByteArray} {own : String} {nL : Nat} {ret : Option FieldType} {rm : Room} {cs : Nat × Nat} {A : zA} {m : zM} {pc : Nat} {lv : zLv} {st : List Value} {off : Int} (X : zOK E cc own nL ret rm) (hd : decode cc pc = .ok (.goto off, 3)) (tgt : Nat) (ht : (pc : Int) + off = (tgt : Int)) (kk : zW E cs A m tgt lv (st)) : zW E cs A m pc lv (st) := by
  obtain ⟨p, l, e, R, s, mm, args, below, meth, c, D, B, Q⟩ := E
  obtain ⟨hx, hb, hml, hown, hts, hK, hB, hr, hlk, hR0⟩ := X
  intro H locs ls hR hS hL hn
  exact lv_goto hx hb hd ht (kk H locs ls hR hS hL hn)
theorem z_ifnonnull {E : zCx} {cc : ByteArray} {own : String} {nL : Nat} {ret : Option FieldType} {rm : Room} {cs : Nat × Nat} {A : zA} {m : zM} {pc : Nat} {lv : zLv} {st : List Value} {a : Nat} {off : Int} (X : zOK E cc own nL ret rm) (hd : decode cc pc = .ok (.ifnonnull off, 3)) (tgt : Nat) (ht : (pc : Int) + off = (tgt : Int)) (kk : zW E cs A m tgt lv (st)) : zW E cs A m pc lv (vr a :: st) := by
  obtain ⟨p, l, e, R, s, mm, args, below, meth, c, D, B, Q⟩ := E
  obtain ⟨hx, hb, hml, hown, hts, hK, hB, hr, hlk, hR0⟩ := X
  intro H locs ls hR hS hL hn
  exact lv_ifnonnull hx hb hd ht (kk H locs ls hR hS hL hn)
theorem z_ifnonnullN {E : zCx} {cc : ByteArray} {own : String} {nL : Nat} {ret : Option FieldType} {rm : Room} {cs : Nat × Nat} {A : zA} {m : zM} {pc : Nat} {lv : zLv} {st : List Value} {off : Int} (X : zOK E cc own nL ret rm) (hd : decode cc pc = .ok (.ifnonnull off, 3)) (kk : zW E cs A m (pc + 3) lv (st)) : zW E cs A m pc lv (.null :: st) := by
  obtain ⟨p, l, e, R, s, mm, args, below, meth, c, D, B, Q⟩ := E
  obtain ⟨hx, hb, hml, hown, hts, hK, hB, hr, hlk, hR0⟩ := X
  intro H locs ls hR hS hL hn
  exact lv_ifnonnullN hx hb hd (kk H locs ls hR hS hL hn)
theorem z_ifnull {E : zCx} {cc : ByteArray} {own : String} {nL : Nat} {ret : Option FieldType} {rm : Room} {cs : Nat × Nat} {A : zA} {m : zM} {pc : Nat} {lv : zLv} {st : List Value} {a : Nat} {off : Int} (X : zOK E cc own nL ret rm) (hd : decode cc pc = .ok (.ifnull off, 3)) (kk : zW E cs A m (pc + 3) lv (st)) : zW E cs A m pc lv (vr a :: st) := by
  obtain ⟨p, l, e, R, s, mm, args, below, meth, c, D, B, Q⟩ := E
  obtain ⟨hx, hb, hml, hown, hts, hK, hB, hr, hlk, hR0⟩ := X
  intro H locs ls hR hS hL hn
  exact lv_ifnull hx hb hd (kk H locs ls hR hS hL hn)
theorem z_ifnullN {E : zCx} {cc : ByteArray} {own : String} {nL : Nat} {ret : Option FieldType} {rm : Room} {cs : Nat × Nat} {A : zA} {m : zM} {pc : Nat} {lv : zLv} {st : List Value} {off : Int} (X : zOK E cc own nL ret rm) (hd : decode cc pc = .ok (.ifnull off, 3)) (tgt : Nat) (ht : (pc : Int) + off = (tgt : Int)) (kk : zW E cs A m tgt lv (st)) : zW E cs A m pc lv (.null :: st) := by
  obtain ⟨p, l, e, R, s, mm, args, below, meth, c, D, B, Q⟩ := E
  obtain ⟨hx, hb, hml, hown, hts, hK, hB, hr, hlk, hR0⟩ := X
  intro H locs ls hR hS hL hn
  exact lv_ifnullN hx hb hd ht (kk H locs ls hR hS hL hn)
theorem z_tableOut {E : zCx} {cc : ByteArray} {own : String} {nL : Nat} {ret : Option FieldType} {rm : Room} {cs : Nat × Nat} {A : zA} {m : zM} {pc : Nat} {lv : zLv} {st : List Value} {dflt lo hi : Int} {offs : Array Int} {len : Nat} {a : Int} (X : zOK E cc own nL ret rm) (hd : decode cc pc = .ok (.tableswitch dflt lo hi offs, len)) (tgt : Nat) (ra : -2147483648 ≤ a ∧ a < 2147483648 := by omega) (h : a < lo ∨ hi < a) (ht : (pc : Int) + dflt = (tgt : Int)) (kk : zW E cs A m tgt lv (st)) : zW E cs A m pc lv (vi a :: st) := by
  obtain ⟨p, l, e, R, s, mm, args, below, meth, c, D, B, Q⟩ := E
  obtain ⟨hx, hb, hml, hown, hts, hK, hB, hr, hlk, hR0⟩ := X
  intro H locs ls hR hS hL hn
  have e1 : (Int32.ofInt a).toInt = a := Int32.toInt_ofInt_of_le (by omega) (by omega)
  exact lv_tableOut hx hb hd (by rw [e1]; exact h) ht (kk H locs ls hR hS hL hn)

theorem z_tableIn {E : zCx} {cc : ByteArray} {own : String} {nL : Nat} {ret : Option FieldType} {rm : Room} {cs : Nat × Nat} {A : zA} {m : zM} {pc : Nat} {lv : zLv} {st : List Value} {dflt lo hi : Int} {offs : Array Int} {len : Nat} {a off : Int} (X : zOK E cc own nL ret rm) (hd : decode cc pc = .ok (.tableswitch dflt lo hi offs, len)) (tgt : Nat) (ra : -2147483648 ≤ a ∧ a < 2147483648 := by omega) (h1 : ¬ a < lo) (h2 : ¬ hi < a) (ho : offs[(a - lo).toNat]? = some off) (ht : (pc : Int) + off = (tgt : Int)) (kk : zW E cs A m tgt lv (st)) : zW E cs A m pc lv (vi a :: st) := by
  obtain ⟨p, l, e, R, s, mm, args, below, meth, c, D, B, Q⟩ := E
  obtain ⟨hx, hb, hml, hown, hts, hK, hB, hr, hlk, hR0⟩ := X
  intro H locs ls hR hS hL hn
  have e1 : (Int32.ofInt a).toInt = a := Int32.toInt_ofInt_of_le (by omega) (by omega)
  exact lv_tableIn hx hb hd (by rw [e1]; exact h1) (by rw [e1]; exact h2) (by rw [e1]; exact ho) ht (kk H locs ls hR hS hL hn)

theorem z_ireturn {E : zCx} {cc : ByteArray} {own : String} {nL : Nat} {ret : Option FieldType} {rm : Room} {cs : Nat × Nat} {A : zA} {m : zM} {pc : Nat} {lv : zLv} {st : List Value} {x : Int} {post : Option Value → zA → zM → Prop} (X : zOK E cc own nL ret rm) (hret : ret = some .int) (hQ : zRet E post cs.1 cs.2) (hd : decode cc pc = .ok (.ireturn, 1)) (h : post (some (vi x)) A m) : zW E cs A m pc lv ([vi x]) := by
  obtain ⟨p, l, e, R, s, mm, args, below, meth, c, D, B, Q⟩ := E
  obtain ⟨hx, hb, hml, hown, hts, hK, hB, hr, hlk, hR0⟩ := X
  intro H locs ls hR hS hL hn
  have hQ : Q = _ := hQ
  subst hQ
  exact W.iret hx hb (hr.trans hret) (fun t ht hW => ⟨some (vi x), A, m, rfl, h, by rw [ht]; exact hR, hS.F ht⟩) hS.2.2 hd

theorem z_zreturn {E : zCx} {cc : ByteArray} {own : String} {nL : Nat} {ret : Option FieldType} {rm : Room} {cs : Nat × Nat} {A : zA} {m : zM} {pc : Nat} {lv : zLv} {st : List Value} {x : Int} {post : Option Value → zA → zM → Prop} (X : zOK E cc own nL ret rm) (hret : ret = some .boolean) (hQ : zRet E post cs.1 cs.2) (hd : decode cc pc = .ok (.ireturn, 1)) (h01 : x = 0 ∨ x = 1) (h : post (some (vi x)) A m) : zW E cs A m pc lv ([vi x]) := by
  obtain ⟨p, l, e, R, s, mm, args, below, meth, c, D, B, Q⟩ := E
  obtain ⟨hx, hb, hml, hown, hts, hK, hB, hr, hlk, hR0⟩ := X
  intro H locs ls hR hS hL hn
  have hQ : Q = _ := hQ
  subst hQ
  exact W.zret hx hb (hr.trans hret) (by rcases h01 with rfl | rfl <;> rfl) (fun t ht hW => ⟨some (vi x), A, m, rfl, h, by rw [ht]; exact hR, hS.F ht⟩) hS.2.2 hd

theorem z_lreturn {E : zCx} {cc : ByteArray} {own : String} {nL : Nat} {ret : Option FieldType} {rm : Room} {cs : Nat × Nat} {A : zA} {m : zM} {pc : Nat} {lv : zLv} {st : List Value} {x : Int} {post : Option Value → zA → zM → Prop} (X : zOK E cc own nL ret rm) (hret : ret = some .long) (hQ : zRet E post cs.1 cs.2) (hd : decode cc pc = .ok (.lreturn, 1)) (h : post (some (vl x)) A m) : zW E cs A m pc lv ([vl x]) := by
  obtain ⟨p, l, e, R, s, mm, args, below, meth, c, D, B, Q⟩ := E
  obtain ⟨hx, hb, hml, hown, hts, hK, hB, hr, hlk, hR0⟩ := X
  intro H locs ls hR hS hL hn
  have hQ : Q = _ := hQ
  subst hQ
  exact W.lret hx hb (hr.trans hret) (fun t ht hW => ⟨some (vl x), A, m, rfl, h, by rw [ht]; exact hR, hS.F ht⟩) hS.2.2 hd

theorem z_return {E : zCx} {cc : ByteArray} {own : String} {nL : Nat} {ret : Option FieldType} {rm : Room} {cs : Nat × Nat} {A : zA} {m : zM} {pc : Nat} {lv : zLv} {st : List Value} {post : Option Value → zA → zM → Prop} (X : zOK E cc own nL ret rm) (hret : ret = none) (hQ : zRet E post cs.1 cs.2) (hd : decode cc pc = .ok (.return_, 1)) (h : post none A m) : zW E cs A m pc lv ([]) := by
  obtain ⟨p, l, e, R, s, mm, args, below, meth, c, D, B, Q⟩ := E
  obtain ⟨hx, hb, hml, hown, hts, hK, hB, hr, hlk, hR0⟩ := X
  intro H locs ls hR hS hL hn
  have hQ : Q = _ := hQ
  subst hQ
  exact W.vret hx hb (hr.trans hret) (fun t ht hW => ⟨none, A, m, rfl, h, by rw [ht]; exact hR, hS.F ht⟩) hS.2.2 hd

theorem z_areturn {E : zCx} {cc : ByteArray} {own : String} {nL : Nat} {ret : Option FieldType} {rm : Room} {cs : Nat × Nat} {A : zA} {m : zM} {pc : Nat} {lv : zLv} {st : List Value} {v : Value} {n : String} {post : Option Value → zA → zM → Prop} (X : zOK E cc own nL ret rm) (hret : ret = some (.object n)) (hQ : zRet E post cs.1 cs.2) (hd : decode cc pc = .ok (.areturn, 1)) (hv : v = .null ∨ ∃ a, v = vr a) (h : post (some v) A m) : zW E cs A m pc lv ([v]) := by
  obtain ⟨p, l, e, R, s, mm, args, below, meth, c, D, B, Q⟩ := E
  obtain ⟨hx, hb, hml, hown, hts, hK, hB, hr, hlk, hR0⟩ := X
  intro H locs ls hR hS hL hn
  have hQ : Q = _ := hQ
  subst hQ
  exact W.aret hx hb (hr.trans hret) (Or.inl ⟨n, rfl⟩) hv (fun t ht hW => ⟨some v, A, m, rfl, h, by rw [ht]; exact hR, hS.F ht⟩) hS.2.2 hd


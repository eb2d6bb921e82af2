section
variable {E : zCx} {cc : ByteArray} {own : String} {nL : Nat} {ret : Option FieldType} {rm : Room} {cs : Nat × Nat} {A : zA} {m : zM} {pc : Nat} {lv : zLv} {st : List Value}
theorem z_iald (X : zOK E cc own nL ret rm) {a n : Nat} (j : Nat) {i : Int} (hd : decode cc pc = .ok (.iaload, 1)) (hj : i = (j : Int)) (hs : A.1 a = some (.inr (0, n)) := by assumption) (hlt : j < n := by omega) (h31 : j < 2147483648 := by omega) (kk : zW E cs A m (pc + 1) lv (vi (m a j) :: st)) : zW E cs A m pc lv (vi i :: vr a :: st) := by
  obtain ⟨p, l, e, R, s, mm, args, below, meth, c, D, B, Q⟩ := E
  obtain ⟨hx, hb, hml, hown, hts, hK, hB, hr, hlk, hR0⟩ := X
  intro H locs ls hR hS hL hn
  subst hj
  obtain ⟨-, -, -, hob⟩ := hR.2.2 a _ hs
  have hA := (hK.2.1 0 (by omega)).1 n (zav 0 a m A.2.1)
  have hin := zI_in (a := (j : Int)) (n := n) (by omega) (by omega) (by omega)
  exact W.iald (v := vi (m a j)) hx hb hob hA (fun q => by cases q) (by show ¬ (_ ∨ (arrV _ _ _).slots.size ≤ _); rw [arrV_size]; exact hin) (by rw [zI_clamp (by omega), Int.toNat_natCast]; exact arrV_read _ _ hlt) rfl rfl hd (kk H locs ls hR hS hL hn)
theorem z_bald (X : zOK E cc own nL ret rm) {a n : Nat} (j : Nat) {i : Int} (hd : decode cc pc = .ok (.baload, 1)) (hj : i = (j : Int)) (hs : A.1 a = some (.inr (1, n)) := by assumption) (hlt : j < n := by omega) (h31 : j < 2147483648 := by omega) (kk : zW E cs A m (pc + 1) lv (vi (m a j) :: st)) : zW E cs A m pc lv (vi i :: vr a :: st) := by
  obtain ⟨p, l, e, R, s, mm, args, below, meth, c, D, B, Q⟩ := E
  obtain ⟨hx, hb, hml, hown, hts, hK, hB, hr, hlk, hR0⟩ := X
  intro H locs ls hR hS hL hn
  subst hj
  obtain ⟨-, -, -, hob⟩ := hR.2.2 a _ hs
  have hA := (hK.2.1 1 (by omega)).1 n (zav 1 a m A.2.1)
  have hin := zI_in (a := (j : Int)) (n := n) (by omega) (by omega) (by omega)
  exact W.zald (v := vi (m a j)) hx hb hob hA (fun q => by cases q) (by show ¬ (_ ∨ (arrV _ _ _).slots.size ≤ _); rw [arrV_size]; exact hin) (by rw [zI_clamp (by omega), Int.toNat_natCast]; exact arrV_read _ _ hlt) rfl rfl hd (kk H locs ls hR hS hL hn)
theorem z_aald (X : zOK E cc own nL ret rm) {a n t b : Nat} (j : Nat) {i : Int} (hd : decode cc pc = .ok (.aaload, 1)) (hj : i = (j : Int)) (ht : 2 ≤ t ∧ t < 5 := by decide) (hs : A.1 a = some (.inr (t, n)) := by assumption) (hlt : j < n := by omega) (h31 : j < 2147483648 := by omega) (hb0 : A.2.1 a j = some b := by assumption) (kk : zW E cs A m (pc + 1) lv (vr b :: st)) : zW E cs A m pc lv (vi i :: vr a :: st) := by
  obtain ⟨p, l, e, R, s, mm, args, below, meth, c, D, B, Q⟩ := E
  obtain ⟨hx, hb, hml, hown, hts, hK, hB, hr, hlk, hR0⟩ := X
  intro H locs ls hR hS hL hn
  subst hj
  obtain ⟨-, -, -, hob⟩ := hR.2.2 a _ hs
  have hA := (hK.2.1 t (by omega)).1 n (zav t a m A.2.1)
  have hin := zI_in (a := (j : Int)) (n := n) (by omega) (by omega) (by omega)
  have hty : (zaT t).isReference = true := by
    match t, ht with
    | 2, _ => rfl
    | 3, _ => rfl
    | 4, _ => rfl
    | 0, h => exact absurd h.1 (by omega)
    | 1, h => exact absurd h.1 (by omega)
    | k + 5, h => exact absurd h.2 (by omega)
  have hv : zav t a m A.2.1 j = vr b := by unfold zav; rw [if_neg (by omega), hb0]; rfl
  exact W.aald (v := vr b) hx hb hob hA hty (fun q => by cases q) (by show ¬ (_ ∨ (arrV _ _ _).slots.size ≤ _); rw [arrV_size]; exact hin) (by rw [zI_clamp (by omega), Int.toNat_natCast, arrV_read _ _ hlt]; exact congrArg some hv) rfl rfl hd (kk H locs ls hR hS hL hn)
theorem z_alen (X : zOK E cc own nL ret rm) {a n t : Nat} (hd : decode cc pc = .ok (.arraylength, 1)) (hs : A.1 a = some (.inr (t, n)) := by assumption) (kk : zW E cs A m (pc + 1) lv (vi (n : Int) :: st)) : zW E cs A m pc lv (vr a :: st) := by
  obtain ⟨p, l, e, R, s, mm, args, below, meth, c, D, B, Q⟩ := E
  obtain ⟨hx, hb, hml, hown, hts, hK, hB, hr, hlk, hR0⟩ := X
  intro H locs ls hR hS hL hn
  obtain ⟨-, -, ht, hob⟩ := hR.2.2 a _ hs
  have hA := (hK.2.1 t ht).1 n (zav t a m A.2.1)
  exact W.alen (n := Int32.ofInt (n : Int)) hx hb hob hA (by rw [arrV_size, Int32.ofInt_eq_ofNat] <;> rfl) rfl rfl hd (kk H locs ls hR hS hL hn)
theorem zav_put {t a : Nat} {m : zM} {mr : Nat → Nat → Option Nat} {j : Nat} {x : Int} (ht : t < 2) : updV (zav t a m mr) j (vi x) = zav t a (zms m a j x) mr := by
  funext k
  unfold updV zav zms
  by_cases hk : k = j <;> simp [hk, ht]
theorem z_iast (X : zOK E cc own nL ret rm) {a n : Nat} {x : Int} (j : Nat) {i : Int} (hd : decode cc pc = .ok (.iastore, 1)) (hj : i = (j : Int)) (hs : A.1 a = some (.inr (0, n)) := by assumption) (hlt : j < n := by omega) (h31 : j < 2147483648 := by omega) (kk : zW E cs A (zms m a j x) (pc + 1) lv st) : zW E cs A m pc lv (vi x :: vi i :: vr a :: st) := by
  obtain ⟨p, l, e, R, s, mm, args, below, meth, c, D, B, Q⟩ := E
  obtain ⟨hx, hb, hml, hown, hts, hK, hB, hr, hlk, hR0⟩ := X
  intro H locs ls hR hS hL hn
  subst hj
  obtain ⟨hqB, -, ht, hob⟩ := hR.2.2 a _ hs
  have hA := (hK.2.1 0 (by omega)).1 n (zav 0 a m A.2.1)
  have hin := zI_in (a := (j : Int)) (n := n) (by omega) (by omega) (by omega)
  refine W.iast hx hb hob hA (fun q => by cases q) (by show ¬ (_ ∨ (arrV _ _ _).slots.size ≤ _); rw [arrV_size]; exact hin) rfl rfl hd fun H1 e1 z oq => ?_
  refine kk H1 _ ls (hR.put hs z oq rfl rfl (fun b j h => zms_nq _ _ _ _ _ h) (fun _ _ _ => rfl) ⟨ht, ?_⟩) (hS.put z oq hqB) hL hn
  rw [e1, zI_clamp (by omega), Int.toNat_natCast, arrV_store]
  exact congrArg (fun f => some (arrV (D.2.2 0) n f)) (zav_put (by omega))
theorem z_bast (X : zOK E cc own nL ret rm) {a n : Nat} {x : Int} (j : Nat) {i : Int} (hd : decode cc pc = .ok (.bastore, 1)) (hj : i = (j : Int)) (h01 : x = 0 ∨ x = 1 := by omega) (hs : A.1 a = some (.inr (1, n)) := by assumption) (hlt : j < n := by omega) (h31 : j < 2147483648 := by omega) (kk : zW E cs A (zms m a j x) (pc + 1) lv st) : zW E cs A m pc lv (vi x :: vi i :: vr a :: st) := by
  obtain ⟨p, l, e, R, s, mm, args, below, meth, c, D, B, Q⟩ := E
  obtain ⟨hx, hb, hml, hown, hts, hK, hB, hr, hlk, hR0⟩ := X
  intro H locs ls hR hS hL hn
  subst hj
  obtain ⟨hqB, -, ht, hob⟩ := hR.2.2 a _ hs
  have hA := (hK.2.1 1 (by omega)).1 n (zav 1 a m A.2.1)
  have hin := zI_in (a := (j : Int)) (n := n) (by omega) (by omega) (by omega)
  refine W.zast hx hb hob hA (fun q => by cases q) (by show ¬ (_ ∨ (arrV _ _ _).slots.size ≤ _); rw [arrV_size]; exact hin) rfl rfl hd fun H1 e1 z oq => ?_
  refine kk H1 _ ls (hR.put hs z oq rfl rfl (fun b j h => zms_nq _ _ _ _ _ h) (fun _ _ _ => rfl) ⟨ht, ?_⟩) (hS.put z oq hqB) hL hn
  have e2 : narrow .boolean (.int (Int32.ofInt x)) = vi x := by rcases h01 with rfl | rfl <;> rfl
  rw [e1, e2, zI_clamp (by omega), Int.toNat_natCast, arrV_store]
  exact congrArg (fun f => some (arrV (D.2.2 1) n f)) (zav_put (by omega))
/-- a reference to an object of the array's own class is kept -/
theorem z_aast (X : zOK E cc own nL ret rm) {a n t b ci : Nat} (j : Nat) {i : Int} (hd : decode cc pc = .ok (.aastore, 1)) (hj : i = (j : Int)) (ht : 2 ≤ t ∧ t < 5 := by decide) (hci : zaT t = .object (zC ci) := by rfl) (hs : A.1 a = some (.inr (t, n)) := by assumption) (hlt : j < n := by omega) (h31 : j < 2147483648 := by omega) (hb0 : A.1 b = some (.inl ci) := by assumption) (kk : zW E cs (A.1, zrs A.2.1 a j (some b), A.2.2) m (pc + 1) lv st) : zW E cs A m pc lv (vr b :: vi i :: vr a :: st) := by
  obtain ⟨p, l, e, R, s, mm, args, below, meth, c, D, B, Q⟩ := E
  obtain ⟨hx, hb, hml, hown, hts, hK, hB, hr, hlk, hR0⟩ := X
  intro H locs ls hR hS hL hn
  subst hj
  obtain ⟨hqB, -, ht5, hob⟩ := hR.2.2 a _ hs
  obtain ⟨-, -, hc9, cellV, g1, g2, g3, -⟩ := hR.2.2 b _ hb0
  have hcls := (hK.1 ci hc9).2
  have hin := zI_in (a := (j : Int)) (n := n) (by omega) (by omega) (by omega)
  have hRA := (hK.2.1 t ht5).2
  rw [hci] at hRA
  obtain ⟨kA, comp, k1, k2, k3, -⟩ := hRA
  have hcomp : comp = D.1 ci := Option.some.inj (k3.symm.trans hcls.1)
  subst hcomp
  obtain ⟨kC, hkC, -⟩ := hcls.2
  refine W.aast hx hb hob (fun q h => by cases h) (fun h => by cases h) k1 k2 rfl hkC ⟨fun h => hin (Or.inl h), by show _ < (arrV _ _ _).slots.size; rw [arrV_size, zI_clamp (by omega), Int.toNat_natCast]; exact hlt⟩ g1 (fun q h => by rw [g3] at h; cases h) (by rw [g2]; exact hkC) (by rw [g2]; exact va_assign hcls) rfl rfl hd fun H1 e1 z oq => ?_
  refine kk H1 _ ls (hR.put (A' := (A.1, zrs A.2.1 a j (some b), A.2.2)) hs z oq rfl rfl (fun _ _ _ => rfl) (fun c k h => by simp [zrs, h]) ⟨ht5, ?_⟩) (hS.put z oq hqB) hL hn
  rw [e1, zI_clamp (by omega), Int.toNat_natCast, arrV_store]
  refine congrArg (fun f => some (arrV (D.2.2 t) n f)) ?_
  funext k
  unfold updV zav
  by_cases hk : k = j
  · subst hk
    simp [zrs, va_rf, Nat.not_lt.mpr ht.1]
  · simp [zrs, hk]
def zgt : FieldType → Bool
  | .int => true | .boolean => true | .long => true | .object _ => true | .array _ => true | _ => false
theorem zgt_ok : ∀ ci, ci < 9 → ∀ k, k < zN ci → zgt (zty ci k) = true := by decide +kernel
/-- what is made: at the next address -/
def zmz (m : zM) (q : Nat) : zM := fun a j => if a = q then 0 else m a j
def zsh (sh : Nat → Option zE) (q : Nat) (e : zE) : Nat → Option zE := fun a => if a = q then some e else sh a
def zrz (mr : Nat → Nat → Option Nat) (q : Nat) : Nat → Nat → Option Nat := fun a j => if a = q then none else mr a j
def znew (A : zA) (e : zE) : zA := (zsh A.1 A.2.2 e, zrz A.2.1 A.2.2, A.2.2 + 1)
theorem zR.push {D : zD} {B : Nat} {A : zA} {m : zM} {H H1 : Heap} {e : zE} (h : zR D B A m H) (z : H1.size = A.2.2 + 1) (oq : ∀ x : Nat, x < A.2.2 → H1[x]? = H[x]?) (hn : zat D (znew A e) (zmz m A.2.2) H1 A.2.2 e) : zR D B (znew A e) (zmz m A.2.2) H1 := by
  refine ⟨z, Nat.le_succ_of_le h.2.1, fun a e' ha => ?_⟩
  by_cases haq : a = A.2.2
  · subst haq
    have : e = e' := by simpa [znew, zsh] using ha
    subst this
    exact ⟨h.2.1, Nat.lt_succ_self _, hn⟩
  · have ha' : A.1 a = some e' := by simpa [znew, zsh, haq] using ha
    obtain ⟨h1, h2, h3⟩ := h.2.2 a e' ha'
    exact ⟨h1, Nat.lt_succ_of_lt h2, (h3.kept (oq a h2)).m (fun j => by simp [zmz, haq]) (fun j => by simp [znew, zrz, haq])⟩
theorem zS_push {B : Nat} {H0 H H1 : Heap} {locs : List Loc} (h : va_S (fun q => B ≤ q) H0 H locs) (hz : H.size ≤ H1.size) (oq : ∀ x : Nat, x < H.size → H1[x]? = H[x]?) : va_S (fun q => B ≤ q) H0 H1 locs :=
  ⟨Nat.le_trans h.1 hz, fun x h1 h2 => (oq x (Nat.lt_of_lt_of_le h1 h.1)).trans (h.2.1 x h1 h2), h.2.2⟩
theorem z_new (X : zOK E cc own nL ret rm) {idx ci : Nat} (hd : decode cc pc = .ok (.new idx, 3)) (hci : ci < 9) (w1 : Cond.classLink own idx (zC ci) ∈ zGB) (w2 : Cond.instantiable (zC ci) (zN ci) ∈ zGB) (w3 : Cond.initialized (zC ci) ∈ zGB) (hcells : cs.1 + 1 ≤ rm.cells) (hslots : cs.2 + zN ci ≤ rm.slots)
    (kk : zW E (cs.1 + 1, cs.2 + zN ci) (znew A (.inl ci)) (zmz m A.2.2) (pc + 3) lv (vr A.2.2 :: st)) : zW E cs A m pc lv st := by
  obtain ⟨p, l, e, R, s, mm, args, below, meth, c, D, B, Q⟩ := E
  obtain ⟨hx, hb, hml, hown, hts, hK, hB, hr, hlk, hR0⟩ := X
  intro H locs ls hR hS hL hn
  subst hR0
  have hKn := hK.1 ci hci
  refine W.newcK hx hb hown (hts _ w1) (hts _ w2) (hts _ w3) rfl hd hcells hslots hKn.2.1 hR.1 fun H1 kC hkC e1 z1 o1 => ?_
  have hbn := u_born (zty ci) hts (zCw hci) hKn hkC e1 (zCt hci)
  refine kk H1 locs ls (hR.push z1 o1 ⟨hci, hbn.to (fun k hk => ?_)⟩) (zS_push hS (by rw [hR.1]; omega) (by rw [hR.1]; exact o1)) hL hn
  have hgt := zgt_ok ci hci k hk
  unfold zov zkd
  simp only [zmz, znew, zrz, if_true]
  cases hty : zty ci k <;> first | rfl | (rw [hty] at hgt; exact absurd hgt (by decide))
theorem z_newarr (X : zOK E cc own nL ret rm) {atype : ArrayType} {t n : Nat} {i : Int} (hd : decode cc pc = .ok (.newarray atype, 2)) (ht : t < 2) (hty : newarray.typeOf atype = zaT t) (w1 : Cond.arrayClass (zaT t) ∈ zGB) (hi : i = (n : Int)) (hn0 : n < 100000000 := by omega) (hcells : cs.1 + 1 ≤ rm.cells) (hslots : cs.2 + n ≤ rm.slots)
    (kk : zW E (cs.1 + 1, cs.2 + n) (znew A (.inr (t, n))) (zmz m A.2.2) (pc + 2) lv (vr A.2.2 :: st)) : zW E cs A m pc lv (vi i :: st) := by
  obtain ⟨p, l, e, R, s, mm, args, below, meth, c, D, B, Q⟩ := E
  obtain ⟨hx, hb, hml, hown, hts, hK, hB, hr, hlk, hR0⟩ := X
  intro H locs ls hR hS hL hn
  subst hR0
  subst hi
  refine va_newaK (N := n) hx hb (by rw [hty]; exact hts _ w1) rfl hd rfl (by rw [show (0 : Int32) = Int32.ofInt 0 from rfl, zI_lt (by omega) (by omega)]; omega) (by rw [zI_clamp (by omega), Int.toNat_natCast]) (by rw [hty]; match t, ht with | 0, _ => show n * 4 ≤ _; omega | 1, _ => show n * 1 ≤ _; omega) hcells hslots hR.1 fun H1 cA e1 z1 o1 hAr hNm => ?_
  have hcA : cA = D.2.2 t := by
    have h2 := (hK.2.1 t (by omega)).2
    rw [hty] at hNm
    match t, ht with
    | 0, _ => exact Option.some.inj (hNm.symm.trans h2)
    | 1, _ => exact Option.some.inj (hNm.symm.trans h2)
  subst hcA
  refine kk H1 locs ls (hR.push z1 o1 ⟨by omega, e1.trans ?_⟩) (zS_push hS (by rw [hR.1]; omega) (by rw [hR.1]; exact o1)) hL hn
  refine congrArg (fun f => some (arrV (D.2.2 t) n f)) ?_
  funext j
  unfold zav
  rw [if_pos ht, hty]
  simp only [zmz, if_true]
  match t, ht with
  | 0, _ => rfl
  | 1, _ => rfl
theorem z_anewarr (X : zOK E cc own nL ret rm) {idx t n ci : Nat} {i : Int} (hd : decode cc pc = .ok (.anewarray idx, 3)) (ht : 2 ≤ t ∧ t < 5) (hci : zaT t = .object (zC ci)) (w1 : Cond.classLink own idx (zC ci) ∈ zGB) (w2 : Cond.arrayOver (.object (zC ci)) ∈ zNB) (hi : i = (n : Int)) (hn0 : n < 100000000 := by omega) (hcells : cs.1 + 1 ≤ rm.cells) (hslots : cs.2 + n ≤ rm.slots)
    (kk : zW E (cs.1 + 1, cs.2 + n) (znew A (.inr (t, n))) (zmz m A.2.2) (pc + 3) lv (vr A.2.2 :: st)) : zW E cs A m pc lv (vi i :: st) := by
  obtain ⟨p, l, e, R, s, mm, args, below, meth, c, D, B, Q⟩ := E
  obtain ⟨hx, hb, hml, hown, hts, hK, hB, hr, hlk, hR0⟩ := X
  intro H locs ls hR hS hL hn
  subst hR0
  subst hi
  have hclamp : (Int32.ofInt (n : Int)).toNatClampNeg = n := by rw [zI_clamp (by omega), Int.toNat_natCast]
  refine W.anew hx hb hown (hts _ w1) (va_AO.use (hK.2.2 _ w2)) rfl hd rfl (by rw [show (0 : Int32) = Int32.ofInt 0 from rfl, zI_lt (by omega) (by omega)]; omega) (by rw [hclamp]; omega) hcells (by rw [hclamp]; exact hslots) fun cA kA comp f1 f2 f3 f4 => ?_
  rw [hclamp]
  have hcA : cA = D.2.2 t := by
    have h2 := (hK.2.1 t (by omega)).2
    rw [hci] at h2
    obtain ⟨_, _, _, _, _, h3⟩ := h2
    exact Option.some.inj (f1.symm.trans h3)
  subst hcA
  generalize hH1 : H.push ({ cls := D.2.2 t, slots := Array.replicate n .null, vm := .none } : Cell) = H1
  have z1 : H1.size = A.2.2 + 1 := by rw [← hH1, Array.size_push, hR.1]
  have e1 : H1[A.2.2]? = some (arrV (D.2.2 t) n (fun _ => .null)) := by rw [← hR.1, ← hH1, Array.getElem?_push_size, ← arrV_new]
  have o1 : ∀ q : Nat, q < A.2.2 → H1[q]? = H[q]? := fun q hq => by rw [← hH1, Array.getElem?_push, if_neg (by rw [hR.1]; omega)]
  rw [hR.1]
  refine kk H1 locs ls (hR.push z1 o1 ⟨by omega, e1.trans ?_⟩) (zS_push hS (by rw [hR.1]; omega) (by rw [hR.1]; exact o1)) hL hn
  refine congrArg (fun f => some (arrV (D.2.2 t) n f)) ?_
  funext j
  unfold zav
  rw [if_neg (by omega)]
  simp only [zmz, znew, zrz, if_true]
  rfl
end

theorem zGB_of {w : Cond} (h : w ∈ lw_tbl ∧ goodWord w = true) : w ∈ zGB := List.mem_filter.mpr h
theorem zCw0 : ∀ w ∈ u_ws RX0 TX0 3, w ∈ lw_tbl ∧ goodWord w = true := by decide +kernel
theorem zCw1 : ∀ w ∈ u_ws RX1 TX1 4, w ∈ lw_tbl ∧ goodWord w = true := by decide +kernel
theorem zCw2 : ∀ w ∈ u_ws RX2 TX2 4, w ∈ lw_tbl ∧ goodWord w = true := by decide +kernel
theorem zCw3 : ∀ w ∈ u_ws RX3 TX3 8, w ∈ lw_tbl ∧ goodWord w = true := by decide +kernel
theorem zCw4 : ∀ w ∈ u_ws RX4 TX4 4, w ∈ lw_tbl ∧ goodWord w = true := by decide +kernel
theorem zCw5 : ∀ w ∈ u_ws RX5 TX5 8, w ∈ lw_tbl ∧ goodWord w = true := by decide +kernel
theorem zCw6 : ∀ w ∈ u_ws RX6 TX6 5, w ∈ lw_tbl ∧ goodWord w = true := by decide +kernel
theorem zCw7 : ∀ w ∈ u_ws RX7 TX7 10, w ∈ lw_tbl ∧ goodWord w = true := by decide +kernel
theorem zCw8 : ∀ w ∈ u_ws RX8 TX8 26, w ∈ lw_tbl ∧ goodWord w = true := by decide +kernel
theorem zCw {ci : Nat} (h : ci < 9) : ∀ w ∈ u_ws (zC ci) (zT ci) (zN ci), w ∈ zGB := by
  match ci, h with
  | 0, _ => exact fun w hw => zGB_of (zCw0 w hw)
  | 1, _ => exact fun w hw => zGB_of (zCw1 w hw)
  | 2, _ => exact fun w hw => zGB_of (zCw2 w hw)
  | 3, _ => exact fun w hw => zGB_of (zCw3 w hw)
  | 4, _ => exact fun w hw => zGB_of (zCw4 w hw)
  | 5, _ => exact fun w hw => zGB_of (zCw5 w hw)
  | 6, _ => exact fun w hw => zGB_of (zCw6 w hw)
  | 7, _ => exact fun w hw => zGB_of (zCw7 w hw)
  | 8, _ => exact fun w hw => zGB_of (zCw8 w hw)
  | n + 9, h => exact absurd h (by omega)
theorem zCn {ci : Nat} (h : ci < 9) : ∀ a, a < zN ci → ∀ b, b < zN ci → a ≠ b → (zT ci a).2.1 ≠ (zT ci b).2.1 := by
  match ci, h with
  | 0, _ => exact nmX0
  | 1, _ => exact nmX1
  | 2, _ => exact nmX2
  | 3, _ => exact nmX3
  | 4, _ => exact nmX4
  | 5, _ => exact nmX5
  | 6, _ => exact nmX6
  | 7, _ => exact nmX7
  | 8, _ => exact nmX8
  | n + 9, h => exact absurd h (by omega)
theorem zCt {ci : Nat} (h : ci < 9) : ∀ k, k < zN ci → parseFieldDescriptor (zT ci k).2.2.1 = some (zty ci k) := by
  match ci, h with
  | 0, _ => exact tyX0_ok
  | 1, _ => exact tyX1_ok
  | 2, _ => exact tyX2_ok
  | 3, _ => exact tyX3_ok
  | 4, _ => exact tyX4_ok
  | 5, _ => exact tyX5_ok
  | 6, _ => exact tyX6_ok
  | 7, _ => exact tyX7_ok
  | 8, _ => exact tyX8_ok
  | n + 9, h => exact absurd h (by omega)
def zFl (own : String) (idx ci k : Nat) : Prop := ci < 9 ∧ k < zN ci ∧ (Cond.fieldLink own idx (zT ci k).1 (zT ci k).2.1 (zT ci k).2.2.1 ∈ zGB ∨ ∃ host, Cond.fieldLinkNest own idx (zT ci k).1 (zT ci k).2.1 (zT ci k).2.2.1 host ∈ zNB)
theorem zat.kept {D : zD} {A : zA} {m : zM} {H H1 : Heap} {q : Nat} {e : zE} (h : zat D A m H q e) (hq : H1[q]? = H[q]?) : zat D A m H1 q e := by
  cases e with
  | inl ci => exact ⟨h.1, h.2.kept hq⟩
  | inr x => exact ⟨h.1, hq.trans h.2⟩
theorem zat.m {D : zD} {A A' : zA} {m m' : zM} {H : Heap} {q : Nat} {e : zE} (h : zat D A m H q e) (hm : ∀ j, m' q j = m q j) (hr : ∀ j, A'.2.1 q j = A.2.1 q j) : zat D A' m' H q e := by
  cases e with
  | inl ci =>
    refine ⟨h.1, h.2.to (fun k _ => ?_)⟩
    unfold zov
    rw [hm, hr]
  | inr x =>
    refine ⟨h.1, h.2.trans ?_⟩
    have : zav x.1 q m A.2.1 = zav x.1 q m' A'.2.1 := by
      funext j
      unfold zav
      rw [hm, hr]
    rw [this]
theorem zap {D : zD} {s : State} {args : Array Value} (hts : ∀ w ∈ zGB, w.before args s = true) (hK : zK D s) {ci : Nat} (hc : ci < 9) : ∀ x y, x < zN ci → y < zN ci → x ≠ y → (D.2.1 ci) x ≠ (D.2.1 ci) y := by
  intro x y hx hy hne
  obtain ⟨hS, -⟩ := hK.1 ci hc
  obtain ⟨_, _, _, fa, hia, ea⟩ := hS x hx
  obtain ⟨_, _, _, fb, hib, eb⟩ := hS y hy
  rw [← ea, ← eb]
  refine u_apart (u_lays hts (zCw hc) hx) (u_lays hts (zCw hc) hy) hia hib ?_
  rw [(State.fieldFound?_type hia (zCt hc x hx)).1, (State.fieldFound?_type hib (zCt hc y hy)).1]
  exact zCn hc x hx y hy hne
section
variable {E : zCx} {cc : ByteArray} {own : String} {nL : Nat} {ret : Option FieldType} {rm : Room} {cs : Nat × Nat} {A : zA} {m : zM} {pc : Nat} {lv : zLv} {st : List Value}
theorem z_get (X : zOK E cc own nL ret rm) {idx ci k q : Nat} (hd : decode cc pc = .ok (.getfield idx, 3)) (hf : zFl own idx ci k) (hs : A.1 q = some (.inl ci)) (kk : zW E cs A m (pc + 3) lv (zov ci q m A.2.1 k :: st)) : zW E cs A m pc lv (vr q :: st) := by
  obtain ⟨p, l, e, R, s, mm, args, below, meth, c, D, B, Q⟩ := E
  obtain ⟨hx, hb, hml, hown, hts, hK, hB, hr, hlk, hR0⟩ := X
  intro H locs ls hR hS hL hn
  obtain ⟨hc, hk, hlink⟩ := hf
  obtain ⟨-, -, -, hob⟩ := hR.2.2 q _ hs
  obtain ⟨cell, q1, q2, q3, q4⟩ := hob
  obtain ⟨hSl, hfc, kC, hkC, hkind⟩ := hK.1 ci hc
  obtain ⟨cf, kf, fi, f, hi, hsl⟩ := hSl k hk
  have hst := (u_facts hfc hkC (u_lays hts (zCw hc) hk) hi).1
  rcases hlink with hlink | ⟨host, hlink⟩
  · refine W.getf hx hb hown (hts _ hlink) hi hst q1 (by rw [q3]; exact fun h => by cases h) (v := zov ci q m A.2.1 k) ?_ rfl rfl hd (kk H locs ls hR hS hL hn)
    rw [hsl, q4 k hk]
  · refine va_Wgetf hx hb hown (va_Nw.use rfl (hK.2.2 _ hlink)) hi hst q1 (by rw [q3]; exact fun h => by cases h) (v := zov ci q m A.2.1 k) ?_ rfl rfl hd (kk H locs ls hR hS hL hn)
    rw [hsl, q4 k hk]
theorem z_getI (X : zOK E cc own nL ret rm) {idx ci k q : Nat} (hd : decode cc pc = .ok (.getfield idx, 3)) (hf : zFl own idx ci k) (hk : zkd ci k = 0 := by rfl) (hs : A.1 q = some (.inl ci) := by assumption) (kk : zW E cs A m (pc + 3) lv (vi (m q k) :: st)) : zW E cs A m pc lv (vr q :: st) := by
  refine z_get X hd hf hs ?_
  unfold zov
  rw [if_pos hk]
  exact kk
theorem z_getL (X : zOK E cc own nL ret rm) {idx ci k q : Nat} (hd : decode cc pc = .ok (.getfield idx, 3)) (hf : zFl own idx ci k) (hk : zkd ci k = 1 := by rfl) (hs : A.1 q = some (.inl ci) := by assumption) (kk : zW E cs A m (pc + 3) lv (vl (m q k) :: st)) : zW E cs A m pc lv (vr q :: st) := by
  refine z_get X hd hf hs ?_
  unfold zov
  rw [if_neg (by omega), if_pos hk]
  exact kk
theorem z_getR (X : zOK E cc own nL ret rm) {idx ci k q a : Nat} (hd : decode cc pc = .ok (.getfield idx, 3)) (hf : zFl own idx ci k) (hk : zkd ci k = 2 := by rfl) (hs : A.1 q = some (.inl ci) := by assumption) (ha : A.2.1 q k = some a := by assumption) (kk : zW E cs A m (pc + 3) lv (vr a :: st)) : zW E cs A m pc lv (vr q :: st) := by
  refine z_get X hd hf hs ?_
  unfold zov
  rw [if_neg (by omega), if_neg (by omega), ha]
  exact kk
theorem zR.put {D : zD} {B : Nat} {A A' : zA} {m m' : zM} {H H1 : Heap} {q : Nat} {e : zE} (h : zR D B A m H) (hs : A.1 q = some e) (z : H1.size = H.size) (oq : ∀ x : Nat, x ≠ q → H1[x]? = H[x]?) (hA1 : A'.1 = A.1) (hA2 : A'.2.2 = A.2.2) (hm : ∀ a j, a ≠ q → m' a j = m a j) (hr : ∀ a j, a ≠ q → A'.2.1 a j = A.2.1 a j) (hn : zat D A' m' H1 q e) : zR D B A' m' H1 := by
  refine ⟨by rw [z, hA2]; exact h.1, by rw [hA2]; exact h.2.1, fun a e' ha => ?_⟩
  rw [hA1] at ha
  obtain ⟨h1, h2, h3⟩ := h.2.2 a e' ha
  refine ⟨h1, by rw [hA2]; exact h2, ?_⟩
  by_cases haq : a = q
  · subst haq
    rw [hs] at ha
    cases ha
    exact hn
  · exact (h3.kept (oq a haq)).m (fun j => hm a j haq) (fun j => hr a j haq)
def zfin (ci k : Nat) : Bool := (zT ci k).2.2.2
/-- a write of a field, whatever it holds -/
theorem z_put (X : zOK E cc own nL ret rm) {idx ci k q : Nat} {v : Value} {A' : zA} {m' : zM} (hd : decode cc pc = .ok (.putfield idx, 3)) (hf : zFl own idx ci k) (hfin : zfin ci k = false ∨ (zfin ci k = true ∧ zNm E "<init>" ∧ zC ci = own ∧ (zT ci k).1 = own ∧ Cond.fieldLink own idx (zT ci k).1 (zT ci k).2.1 (zT ci k).2.2.1 ∈ zGB))
    (hs : A.1 q = some (.inl ci)) (hnr : narrow (zty ci k) v = v) (hfit : fits (zty ci k) v = true) (hA1 : A'.1 = A.1) (hA2 : A'.2.2 = A.2.2) (hm : ∀ a j, a ≠ q → m' a j = m a j) (hr : ∀ a j, a ≠ q → A'.2.1 a j = A.2.1 a j)
    (hv : ∀ j, j < zN ci → updV (zov ci q m A.2.1) k v j = zov ci q m' A'.2.1 j) (kk : zW E cs A' m' (pc + 3) lv st) : zW E cs A m pc lv (v :: vr q :: st) := by
  obtain ⟨p, l, e, R, s, mm, args, below, meth, c, D, B, Q⟩ := E
  obtain ⟨hx, hb, hml, hown, hts, hK, hB, hr0, hlk, hR0⟩ := X
  intro H locs ls hR hS hL hn
  obtain ⟨hc, hk, hlink⟩ := hf
  have hap := zap hts hK hc
  obtain ⟨hqB, -, -, hob⟩ := hR.2.2 q _ hs
  obtain ⟨cell, q1, q2, q3, q4⟩ := hob
  obtain ⟨hSl, hfc, kC, hkC, hkind⟩ := hK.1 ci hc
  obtain ⟨cf, kf, fi, f, hi, hsl⟩ := hSl k hk
  have hst := (u_facts hfc hkC (u_lays hts (zCw hc) hk) hi).1
  have fin : ∀ (H' : Heap), H'[q]? = some (cell.setSlot f.slot v) → H'.size = H.size → (∀ x, x ≠ q → H'[x]? = H[x]?) → W p l e R s mm args below meth c H' (locs ++ [⟨q, f.slot⟩]) cs.1 cs.2 Q (F0 mm (pc + 3) ls st) := by
    intro H' e1 e2 e3
    rw [hsl] at e1
    refine kk H' _ ls (hR.put hs e2 e3 hA1 hA2 hm hr ⟨hc, ?_⟩) (hS.put e2 e3 hqB) hL hn
    exact t_OB.to (V := updV (zov ci q m A.2.1) k v) ⟨_, e1, q2, q3, t_set q4 hap hk v⟩ hv
  rcases hfin with hfin | ⟨hfin, hin, hown2, hdecl, hlink2⟩
  · have hlay := hts _ (zCw hc _ (u_in_lay hk))
    unfold u_lay at hlay
    rw [if_neg (by have : (zT ci k).2.2.2 = false := hfin; rw [this]; decide)] at hlay
    have h6 := u_store hfc hkC hkind hlay hi (zCt hc k hk) hnr hfit
    rcases hlink with hlink | ⟨host, hlink⟩
    · exact W.putK hx hb (f := f) ⟨hown, hts _ hlink, ⟨_, _, _, hi⟩, hst⟩ (by rw [q2]; exact h6) q1 q3 (by rw [hsl]; exact k2_hasslot (q4 k hk)) rfl rfl hd fin
    · exact va_WputK hx hb (f := f) hown (va_Nw.use rfl (hK.2.2 _ hlink)) hi hst (by rw [q2]; exact h6) q1 q3 (by rw [hsl]; exact k2_hasslot (q4 k hk)) rfl rfl hd fin
  · have hlay := hts _ (zCw hc _ (u_in_lay hk))
    unfold u_lay at hlay
    rw [if_pos (show (zT ci k).2.2.2 = true from hfin)] at hlay
    have hcf : mm.cls = cf := by
      obtain ⟨_, _, c', _, _, _, -, -, hf', -, -, -, hown3, -⟩ := Cond.laysFinal_spec hlay
      have e1 : c' = cf := by have := hi.symm.trans hf'; simp at this; exact this.1.symm
      rw [hdecl] at hown3
      rw [← e1]; exact Option.some.inj (hown.symm.trans hown3)
    have h6 := u_fits hfc hkC hkind (Or.inr hlay) hi (zCt hc k hk) hnr hfit
    exact W.putFinK hx hb hown (hts _ hlink2) hi hst hcf hin (by rw [q2]; exact h6) q1 q3 (by rw [hsl]; exact k2_hasslot (q4 k hk)) rfl rfl hd fin
theorem z_putI (X : zOK E cc own nL ret rm) {idx ci k q : Nat} {x : Int} (hd : decode cc pc = .ok (.putfield idx, 3)) (hf : zFl own idx ci k) (hty : zty ci k = .int := by rfl) (hfin : zfin ci k = false := by rfl) (hs : A.1 q = some (.inl ci) := by assumption) (kk : zW E cs A (zms m q k x) (pc + 3) lv st) : zW E cs A m pc lv (vi x :: vr q :: st) := by
  have hk : zkd ci k = 0 := by unfold zkd; rw [hty]
  refine z_put X hd hf (Or.inl hfin) hs (by rw [hty]; rfl) (by rw [hty]; rfl) rfl rfl (fun a j h => zms_nq _ _ _ _ _ h) (fun _ _ _ => rfl) (fun j _ => ?_) kk
  unfold updV zov
  by_cases hj : j = k
  · subst hj
    simp [hk, zms]
  · simp [hj, zms]
theorem z_putL (X : zOK E cc own nL ret rm) {idx ci k q : Nat} {x : Int} (hd : decode cc pc = .ok (.putfield idx, 3)) (hf : zFl own idx ci k) (hty : zty ci k = .long := by rfl) (hfin : zfin ci k = false := by rfl) (hs : A.1 q = some (.inl ci) := by assumption) (kk : zW E cs A (zms m q k x) (pc + 3) lv st) : zW E cs A m pc lv (vl x :: vr q :: st) := by
  have hk : zkd ci k = 1 := by unfold zkd; rw [hty]
  refine z_put X hd hf (Or.inl hfin) hs (by rw [hty]; rfl) (by rw [hty]; rfl) rfl rfl (fun a j h => zms_nq _ _ _ _ _ h) (fun _ _ _ => rfl) (fun j _ => ?_) kk
  unfold updV zov
  by_cases hj : j = k
  · subst hj
    simp [hk, zms]
  · simp [hj, zms]
theorem z_putZ (X : zOK E cc own nL ret rm) {idx ci k q : Nat} {x : Int} (hd : decode cc pc = .ok (.putfield idx, 3)) (hf : zFl own idx ci k) (h01 : x = 0 ∨ x = 1 := by omega) (hty : zty ci k = .boolean := by rfl) (hfin : zfin ci k = false := by rfl) (hs : A.1 q = some (.inl ci) := by assumption) (kk : zW E cs A (zms m q k x) (pc + 3) lv st) : zW E cs A m pc lv (vi x :: vr q :: st) := by
  have hk : zkd ci k = 0 := by unfold zkd; rw [hty]
  refine z_put X hd hf (Or.inl hfin) hs (by rw [hty]; rcases h01 with rfl | rfl <;> rfl) (by rw [hty]; rcases h01 with rfl | rfl <;> rfl) rfl rfl (fun a j h => zms_nq _ _ _ _ _ h) (fun _ _ _ => rfl) (fun j _ => ?_) kk
  unfold updV zov
  by_cases hj : j = k
  · subst hj
    simp [hk, zms]
  · simp [hj, zms]
def zrs (mr : Nat → Nat → Option Nat) (q k : Nat) (v : Option Nat) : Nat → Nat → Option Nat := fun a j => if a = q ∧ j = k then v else mr a j
theorem z_putR (X : zOK E cc own nL ret rm) {idx ci k q a : Nat} (hd : decode cc pc = .ok (.putfield idx, 3)) (hf : zFl own idx ci k) (hn : zNm E "<init>") (hlink : Cond.fieldLink own idx (zT ci k).1 (zT ci k).2.1 (zT ci k).2.2.1 ∈ zGB) (hcl : zC ci = own := by rfl) (hdecl : (zT ci k).1 = own := by rfl) (hk : zkd ci k = 2 := by rfl) (hty : narrow (zty ci k) (vr a) = vr a ∧ fits (zty ci k) (vr a) = true := by exact ⟨rfl, rfl⟩) (hfin : zfin ci k = true := by rfl) (hs : A.1 q = some (.inl ci) := by assumption) (kk : zW E cs (A.1, zrs A.2.1 q k (some a), A.2.2) m (pc + 3) lv st) : zW E cs A m pc lv (vr a :: vr q :: st) := by
  refine z_put (A' := (A.1, zrs A.2.1 q k (some a), A.2.2)) (m' := m) X hd hf (Or.inr ⟨hfin, hn, hcl, hdecl, hlink⟩) hs hty.1 hty.2 rfl rfl (fun _ _ _ => rfl) (fun b j h => by simp [zrs, h]) (fun j _ => ?_) kk
  unfold updV zov
  by_cases hj : j = k
  · subst hj
    simp [hk, zrs, va_rf, vr]
  · simp [hj, zrs]
end

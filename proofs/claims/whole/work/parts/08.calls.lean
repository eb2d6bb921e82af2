/-- what the tables say of a method; of a link to it -/
def zMw (k : zMi) (n : Nat) : Prop := Cond.initialized k.1.cls ∈ zGB ∧ Cond.code k.1 k.2.1 k.2.2.1 k.2.2.2.1 ∈ zGB ∧ (k.1.cls ≠ "java/lang/invoke/MethodHandle" ∧ k.1.cls ≠ "java/lang/invoke/VarHandle") ∧ (parseMethodDescriptor k.1.desc).map (fun d => d.parameters.length) = some n
def zLk (own : String) (idx : Nat) (k : zMi) : Prop := Cond.methodLink own idx k.1 ∈ zGB ∨ ∃ host, Cond.methodLinkNest own idx k.1 host ∈ zNB
def zIn (k : zMi) : Prop := Cond.instanceMethod k.1 ∈ zGB ∧ Cond.selects k.1.cls k.1 k.1 ∈ zGB
def zpv (A0 : zA) (P : zM → Prop) : Option Value → zA → zM → Prop := fun r A m => A = A0 ∧ r = none ∧ P m
def zpi (A0 : zA) (P : Int → zM → Prop) : Option Value → zA → zM → Prop := fun r A m => A = A0 ∧ ∃ x : Int, r = some (vi x) ∧ P x m
def zpl (A0 : zA) (P : Int → zM → Prop) : Option Value → zA → zM → Prop := fun r A m => A = A0 ∧ ∃ x : Int, r = some (vl x) ∧ P x m
def zpr (A0 : zA) (P : Option Nat → zM → Prop) : Option Value → zA → zM → Prop := fun r A m => A = A0 ∧ ∃ x : Option Nat, r = some (va_rf x) ∧ P x m
/-- of a constructor -/
def zpc (P : zA → zM → Prop) : Option Value → zA → zM → Prop := fun r A m => r = none ∧ P A m
theorem zPc_blind {D : zD} {B : Nat} {av : List Value} {A : zA} {m : zM} : FrameBlind (zPc D B av A m) := fun a U g mk h => ⟨h.1, h.2.1, zK.same (s := U) (U := U.calling g mk a) rfl h.2.2⟩
theorem zws_ok {s : State} {args : Array Value} (hts : ∀ w ∈ zGB, w.before args s = true) {k : zMi} {n : Nat} (hw : zMw k n) : ∀ w ∈ (Cond.code k.1 k.2.1 k.2.2.1 k.2.2.2.1 :: zGB), ∀ (a' : Array Value) (U : State), s.WarmedH U.vm → w.before a' U = true := by
  refine pay_in hts (fun w h => ?_)
  have h1 : w ∈ zGB := by
    rcases List.mem_cons.mp h with rfl | h
    · exact hw.2.1
    · exact h
  exact ⟨h1, good_of_word (List.mem_filter.mp h1).2⟩
theorem zW_of_run {p : Program} {l : Launch} {e : Env} {R : Room} {s : State} {mm : MethodId} {args : Array Value} {below : List Frame} {meth : Method} {c : Code} {D : zD} {B : Nat} {Q : State → Prop} {H : Heap} {locs : List Loc} {cs : Nat × Nat} {mc ms pc : Nat} {ls : Array Slot} {lv : zLv} {st rest : List Value} {a : Array Value} {post : Option Value → zA → zM → Prop}
    (hr : va_Run p l e R s mm args below meth c H locs cs.1 cs.2 mc ms (F0 mm pc ls st) rest (zQc D B post a) (fun q => B ≤ q)) (hS : va_S (fun q => B ≤ q) s.heap H locs) (hL : zL ls lv) (hn : lv.length = c.maxLocals)
    (kk : ∀ r A' m', post r A' m' → zW (p, l, e, R, s, mm, args, below, meth, c, D, B, Q) (cs.1 + mc, cs.2 + ms) A' m' (pc + 3) lv (r.toList ++ rest)) : W p l e R s mm args below meth c H locs cs.1 cs.2 Q (F0 mm pc ls st) := by
  intro T hT X
  obtain ⟨v, st₀, t, T', L, h0, X', hL', e1, e2, ⟨r, A', m', hv, hp, hR', hz, hk⟩, stp⟩ := hr T hT X
  cases hv
  rw [h0] at hz hk
  have hS' : va_S (fun q => B ≤ q) s.heap T'.heap (locs ++ L) := ⟨Nat.le_trans hS.1 (by rw [e1]; exact hz), fun q h1 h2 => by rw [e1, hk q (Nat.lt_of_lt_of_le h1 hS.1) h2]; exact hS.2.1 q h1 h2, fun q hq => by
      rcases List.mem_append.mp hq with h | h
      · exact hS.2.2 q h
      · exact hL' q h⟩
  obtain ⟨t2, a1, b1⟩ := kk v A' m' hp T'.heap (locs ++ L) ls (by rw [e1]; exact hR') hS' hL hn T' rfl X'
  exact ⟨t2, stp t2 a1, b1⟩
section
variable {E : zCx} {cc : ByteArray} {own : String} {nL : Nat} {ret : Option FieldType} {rm : Room} {cs : Nat × Nat} {A : zA} {m : zM} {pc : Nat} {lv : zLv} {st : List Value}
/-- invokevirtual, of a method with its contract -/
theorem z_callV (X : zOK E cc own nL ret rm) {idx n b ci : Nat} {k : zMi} {As rest : List Value} {post : Option Value → zA → zM → Prop} (hd : decode cc pc = .ok (.invokevirtual idx, 3)) (hw : zMw k n) (hi : zIn k) (hl : zLk own idx k) (hM : zMet (zg E) k (vr b :: As) A m post)
    (hs : A.1 b = some (.inl ci)) (hci : zC ci = k.1.cls) (hst : st = As.reverse ++ vr b :: rest) (hlen : As.length = n) (hrest : (rest.map fun v => v.category).sum ≤ 8) (hroom : k.2.2.2.2.frames + 1 ≤ rm.frames ∧ 8 + (k.2.2.1 + 11) + k.2.2.2.2.locals ≤ rm.locals) (hf : cs.1 + k.2.2.2.2.cells ≤ rm.cells ∧ cs.2 + k.2.2.2.2.slots ≤ rm.slots)
    (kk : ∀ r A' m', post r A' m' → zW E (cs.1 + k.2.2.2.2.cells, cs.2 + k.2.2.2.2.slots) A' m' (pc + 3) lv (r.toList ++ rest)) : zW E cs A m pc lv st := by
  obtain ⟨p, l, e, R, s, mm, args, below, meth, c, D, B, Q⟩ := E
  obtain ⟨hx, hb, hml, hown, hts, hK, hB, hr, hlk, hR0⟩ := X
  intro H locs ls hR hS hL hn
  subst hR0
  subst hst
  obtain ⟨-, -, hc9, cell, q1, q2, q3, -⟩ := hR.2.2 b _ hs
  have hcw : CallB R s args own idx k.1 k.2.1 k.2.2.1 k.2.2.2.1 (Cond.code k.1 k.2.1 k.2.2.1 k.2.2.2.1 :: zGB) k.2.2.2.2 k.2.2.2.2.cells k.2.2.2.2.slots n ∨ ∃ host, va_CN R s args own idx k.1 host k.2.1 k.2.2.1 k.2.2.2.1 (Cond.code k.1 k.2.1 k.2.2.1 k.2.2.2.1 :: zGB) k.2.2.2.2 k.2.2.2.2.cells k.2.2.2.2.slots n := by
    have hnl : ∀ sig, parseMethodDescriptor k.1.desc = some sig → n = sig.parameters.length := fun sig h => by
      have h2 := hw.2.2.2
      rw [h] at h2
      exact (Option.some.inj h2).symm
    rcases hl with hl | ⟨host, hl⟩
    · exact Or.inl ⟨rfl, rfl, hroom.1, hroom.2, zws_ok hts hw, List.mem_cons_self, hts _ hw.2.1, hts _ hw.1, hw.2.2.1, hnl, hts _ hl⟩
    · exact Or.inr ⟨host, ⟨rfl, rfl, hroom.1, hroom.2, zws_ok hts hw, List.mem_cons_self⟩, hts _ hw.2.1, hts _ hw.1, hw.2.2.1, hnl, va_Nw.use rfl (hK.2.2 _ hl)⟩
  have hfc : s.vm.findClass k.1.cls = some cell.cls := by rw [← hci, q2]; exact (hK.1 ci hc9).2.1
  have hpre : PreV s H k.1.cls b (zPc D B (vr b :: As) A m) As := ⟨zPc_blind, ⟨cell, q1, by rw [q3]; rfl, hfc⟩, fun U hU hW => ⟨rfl, by rw [hU]; exact hR, hK.warm hW⟩⟩
  rcases hcw with hcw | ⟨host, hcw⟩
  · exact zW_of_run (va_runV (index := idx) (As := As) (rest := rest) ⟨hx, hb, hml, hown, hts⟩ hM ⟨hcw, hts _ hi.1, hts _ hi.2⟩ hpre rfl hlen (by rw [hL.1, hn, hml]) rfl (lv_room hrest) hd hf) hS hL hn kk
  · exact zW_of_run (va_runVN (index := idx) (As := As) (rest := rest) ⟨hx, hb, hml, hown, hts⟩ hM ⟨hcw, hts _ hi.1, hts _ hi.2⟩ hpre rfl hlen (by rw [hL.1, hn, hml]) rfl (lv_room hrest) hd hf) hS hL hn kk
theorem z_callS (X : zOK E cc own nL ret rm) {idx n : Nat} {k : zMi} {As rest : List Value} {post : Option Value → zA → zM → Prop} (hd : decode cc pc = .ok (.invokestatic idx, 3)) (hw : zMw k n) (hi : Cond.static k.1 ∈ zGB) (hl : zLk own idx k) (hM : zMet (zg E) k As A m post)
    (hst : st = As.reverse ++ rest) (hlen : As.length = n) (hrest : (rest.map fun v => v.category).sum ≤ 8) (hroom : k.2.2.2.2.frames + 1 ≤ rm.frames ∧ 8 + (k.2.2.1 + 11) + k.2.2.2.2.locals ≤ rm.locals) (hf : cs.1 + k.2.2.2.2.cells ≤ rm.cells ∧ cs.2 + k.2.2.2.2.slots ≤ rm.slots)
    (kk : ∀ r A' m', post r A' m' → zW E (cs.1 + k.2.2.2.2.cells, cs.2 + k.2.2.2.2.slots) A' m' (pc + 3) lv (r.toList ++ rest)) : zW E cs A m pc lv st := by
  obtain ⟨p, l, e, R, s, mm, args, below, meth, c, D, B, Q⟩ := E
  obtain ⟨hx, hb, hml, hown, hts, hK, hB, hr, hlk, hR0⟩ := X
  intro H locs ls hR hS hL hn
  subst hR0
  subst hst
  have hnl : ∀ sig, parseMethodDescriptor k.1.desc = some sig → n = sig.parameters.length := fun sig h => by
    have h2 := hw.2.2.2
    rw [h] at h2
    exact (Option.some.inj h2).symm
  have hpre : PreS s H (zPc D B As A m) As := ⟨zPc_blind, fun U hU hW => ⟨rfl, by rw [hU]; exact hR, hK.warm hW⟩⟩
  rcases hl with hl | ⟨host, hl⟩
  · exact zW_of_run (va_runS (index := idx) (As := As) (rest := rest) ⟨hx, hb, hml, hown, hts⟩ hM ⟨⟨rfl, rfl, hroom.1, hroom.2, zws_ok hts hw, List.mem_cons_self, hts _ hw.2.1, hts _ hw.1, hw.2.2.1, hnl, hts _ hl⟩, hts _ hi⟩ hpre rfl hlen (by rw [hL.1, hn, hml]) rfl (lv_room hrest) hd hf) hS hL hn kk
  · exact zW_of_run (va_runSN (index := idx) (As := As) (rest := rest) ⟨hx, hb, hml, hown, hts⟩ hM ⟨⟨⟨rfl, rfl, hroom.1, hroom.2, zws_ok hts hw, List.mem_cons_self⟩, hts _ hw.2.1, hts _ hw.1, hw.2.2.1, hnl, va_Nw.use rfl (hK.2.2 _ hl)⟩, hts _ hi, trivial⟩ hpre rfl hlen (by rw [hL.1, hn, hml]) rfl (lv_room hrest) hd hf) hS hL hn kk
/-- a constructor -/
theorem z_callI (X : zOK E cc own nL ret rm) {idx n b : Nat} {y : MethodName} {bytes : ByteArray} {maxL : Nat} {rmk : Room} {As rest : List Value} {post : Option Value → zA → zM → Prop} (hd : decode cc pc = .ok (.invokespecial idx, 3)) (hy : y.name = "<init>") (hw : zMw (y, bytes, maxL, none, rmk) n) (hi : Cond.instanceMethod y ∈ zGB) (hl : zLk own idx (y, bytes, maxL, none, rmk)) (hM : zMet (zg E) (y, bytes, maxL, none, rmk) (vr b :: As) A m post)
    (hst : st = As.reverse ++ vr b :: rest) (hlen : As.length = n) (hrest : (rest.map fun v => v.category).sum ≤ 8) (hroom : rmk.frames + 1 ≤ rm.frames ∧ 8 + (maxL + 11) + rmk.locals ≤ rm.locals) (hf : cs.1 + rmk.cells ≤ rm.cells ∧ cs.2 + rmk.slots ≤ rm.slots)
    (kk : ∀ r A' m', post r A' m' → zW E (cs.1 + rmk.cells, cs.2 + rmk.slots) A' m' (pc + 3) lv (r.toList ++ rest)) : zW E cs A m pc lv st := by
  obtain ⟨p, l, e, R, s, mm, args, below, meth, c, D, B, Q⟩ := E
  obtain ⟨hx, hb, hml, hown, hts, hK, hB, hr, hlk, hR0⟩ := X
  intro H locs ls hR hS hL hn
  subst hR0
  subst hst
  have hnl : ∀ sig, parseMethodDescriptor y.desc = some sig → n = sig.parameters.length := fun sig h => by
    have h2 := hw.2.2.2
    rw [h] at h2
    exact (Option.some.inj h2).symm
  have hpre : PreS s H (zPc D B (vr b :: As) A m) (.ref b :: As) := ⟨zPc_blind, fun U hU hW => ⟨rfl, by rw [hU]; exact hR, hK.warm hW⟩⟩
  rcases hl with hl | ⟨host, hl⟩
  · exact zW_of_run (va_runI (index := idx) (b := b) (As := As) (rest := rest) ⟨hx, hb, hml, hown, hts⟩ hM ⟨⟨rfl, rfl, hroom.1, hroom.2, zws_ok hts hw, List.mem_cons_self, hts _ hw.2.1, hts _ hw.1, hw.2.2.1, hnl, hts _ hl⟩, hy, hts _ hi⟩ hpre rfl hlen (by rw [hL.1, hn, hml]) rfl (lv_room hrest) hd hf) hS hL hn kk
  · exact zW_of_run (va_runIN (index := idx) (b := b) (As := As) (rest := rest) ⟨hx, hb, hml, hown, hts⟩ hM ⟨⟨⟨rfl, rfl, hroom.1, hroom.2, zws_ok hts hw, List.mem_cons_self⟩, hts _ hw.2.1, hts _ hw.1, hw.2.2.1, hnl, va_Nw.use rfl (hK.2.2 _ hl)⟩, hy, hts _ hi⟩ hpre rfl hlen (by rw [hL.1, hn, hml]) rfl (lv_room hrest) hd hf) hS hL hn kk
theorem z_objInit (X : zOK E cc own nL ret rm) {idx q : Nat} (hd : decode cc pc = .ok (.invokespecial idx, 3)) (w1 : Cond.methodLink own idx Lib.objectInit ∈ zGB) (w2 : Cond.instanceMethod Lib.objectInit ∈ zGB) (w3 : Cond.code Lib.objectInit ⟨#[0xb1]⟩ 1 none ∈ zGB) (hfr : 1 ≤ rm.frames) (hlo : (st.map fun v => v.category).sum + 12 ≤ rm.locals) (kk : zW E cs A m (pc + 3) lv st) : zW E cs A m pc lv (vr q :: st) := by
  obtain ⟨p, l, e, R, s, mm, args, below, meth, c, D, B, Q⟩ := E
  obtain ⟨hx, hb, hml, hown, hts, hK, hB, hr, hlk, hR0⟩ := X
  intro H locs ls hR hS hL hn
  subst hR0
  exact W.objInit hx hb hown (hts _ w1) (hts _ w2) (hts _ w3) rfl (by rw [hL.1, hn]) rfl hd hfr (by show 2 * 0 + _ + 12 ≤ _; omega) (kk H locs ls hR hS hL hn)
theorem z_max (X : zOK E cc own nL ret rm) {idx : Nat} {a b : Int} (hd : decode cc pc = .ok (.invokestatic idx, 3)) (w1 : Cond.methodLink own idx Lib.Math.max.name ∈ zGB) (w2 : Cond.static Lib.Math.max.name ∈ zGB) (w3 : Cond.initialized "java/lang/Math" ∈ zGB) (w4 : Cond.code Lib.Math.max.name Lib.Math.max.code 2 (some .int) ∈ zGB) (hfr : 1 ≤ rm.frames) (hlo : (st.map fun v => v.category).sum + 13 ≤ rm.locals) (hc : cs.1 ≤ rm.cells ∧ cs.2 ≤ rm.slots) (ra : -2147483648 ≤ a ∧ a < 2147483648 := by omega) (rb : -2147483648 ≤ b ∧ b < 2147483648 := by omega) (kk : zW E cs A m (pc + 3) lv (vi (max a b) :: st)) : zW E cs A m pc lv (vi b :: vi a :: st) := by
  obtain ⟨p, l, e, R, s, mm, args, below, meth, c, D, B, Q⟩ := E
  obtain ⟨hx, hb, hml, hown, hts, hK, hB, hr, hlk, hR0⟩ := X
  intro H locs ls hR hS hL hn
  subst hR0
  refine va_mmax hx hb (by rw [hL.1, hn]) hown (hts _ w1) (hts _ w2) (hts _ w3) (hts _ w4) hfr hlo hc.1 hc.2 hd ?_
  have h := kk H locs ls hR hS hL hn
  have e : (if Int32.ofInt a < Int32.ofInt b then Int32.ofInt b else Int32.ofInt a) = Int32.ofInt (max a b) := by
    by_cases hab : a < b
    · rw [if_pos ((zI_lt ra rb).mpr hab), Int.max_eq_right (by omega)]
    · rw [if_neg (fun q => hab ((zI_lt ra rb).mp q)), Int.max_eq_left (by omega)]
  rw [e]
  exact h
theorem z_min (X : zOK E cc own nL ret rm) {idx : Nat} {a b : Int} (hd : decode cc pc = .ok (.invokestatic idx, 3)) (w1 : Cond.methodLink own idx Lib.Math.min.name ∈ zGB) (w2 : Cond.static Lib.Math.min.name ∈ zGB) (w3 : Cond.initialized "java/lang/Math" ∈ zGB) (w4 : Cond.code Lib.Math.min.name Lib.Math.min.code 2 (some .int) ∈ zGB) (hfr : 1 ≤ rm.frames) (hlo : (st.map fun v => v.category).sum + 13 ≤ rm.locals) (hc : cs.1 ≤ rm.cells ∧ cs.2 ≤ rm.slots) (ra : -2147483648 ≤ a ∧ a < 2147483648 := by omega) (rb : -2147483648 ≤ b ∧ b < 2147483648 := by omega) (kk : zW E cs A m (pc + 3) lv (vi (min a b) :: st)) : zW E cs A m pc lv (vi b :: vi a :: st) := by
  obtain ⟨p, l, e, R, s, mm, args, below, meth, c, D, B, Q⟩ := E
  obtain ⟨hx, hb, hml, hown, hts, hK, hB, hr, hlk, hR0⟩ := X
  intro H locs ls hR hS hL hn
  subst hR0
  refine va_mmin hx hb (by rw [hL.1, hn]) hown (hts _ w1) (hts _ w2) (hts _ w3) (hts _ w4) hfr hlo hc.1 hc.2 hd ?_
  have h := kk H locs ls hR hS hL hn
  have e : (if Int32.ofInt b < Int32.ofInt a then Int32.ofInt b else Int32.ofInt a) = Int32.ofInt (min a b) := by
    by_cases hab : b < a
    · rw [if_pos ((zI_lt rb ra).mpr hab), Int.min_eq_right (by omega)]
    · rw [if_neg (fun q => hab ((zI_lt rb ra).mp q)), Int.min_eq_left (by omega)]
  rw [e]
  exact h
theorem z_minl (X : zOK E cc own nL ret rm) {idx : Nat} {a b : Int} (hd : decode cc pc = .ok (.invokestatic idx, 3)) (w1 : Cond.methodLink own idx Lib.MathLoose.min_long.x ∈ zGB) (w2 : Cond.static Lib.MathLoose.min_long.x ∈ zGB) (w3 : Cond.initialized "java/lang/Math" ∈ zGB) (w4 : Cond.code Lib.MathLoose.min_long.x Lib.MathLoose.min_long.code 4 (some .long) ∈ zGB) (hfr : 1 ≤ rm.frames) (hlo : (st.map fun v => v.category).sum + 15 ≤ rm.locals) (hc : cs.1 ≤ rm.cells ∧ cs.2 ≤ rm.slots) (ra : -9223372036854775808 ≤ a ∧ a < 9223372036854775808 := by omega) (rb : -9223372036854775808 ≤ b ∧ b < 9223372036854775808 := by omega) (kk : zW E cs A m (pc + 3) lv (vl (min a b) :: st)) : zW E cs A m pc lv (vl b :: vl a :: st) := by
  obtain ⟨p, l, e, R, s, mm, args, below, meth, c, D, B, Q⟩ := E
  obtain ⟨hx, hb, hml, hown, hts, hK, hB, hr, hlk, hR0⟩ := X
  intro H locs ls hR hS hL hn
  subst hR0
  refine va_mmin_long hx hb (by rw [hL.1, hn]) hown (hts _ w1) (hts _ w2) (hts _ w3) (hts _ w4) hfr hlo hc.1 hc.2 hd ?_
  have h := kk H locs ls hR hS hL hn
  have e : (if Int64.ofInt b < Int64.ofInt a then Int64.ofInt b else Int64.ofInt a) = Int64.ofInt (min a b) := by
    by_cases hab : b < a
    · rw [if_pos ((zL_lt rb ra).mpr hab), Int.min_eq_right (by omega)]
    · rw [if_neg (fun q => hab ((zL_lt rb ra).mp q)), Int.min_eq_left (by omega)]
  rw [e]
  exact h
theorem z_absl (X : zOK E cc own nL ret rm) {idx : Nat} {a : Int} (hd : decode cc pc = .ok (.invokestatic idx, 3)) (w1 : Cond.methodLink own idx Lib.MathLoose.abs_long.x ∈ zGB) (w2 : Cond.static Lib.MathLoose.abs_long.x ∈ zGB) (w3 : Cond.initialized "java/lang/Math" ∈ zGB) (w4 : Cond.code Lib.MathLoose.abs_long.x Lib.MathLoose.abs_long.code 2 (some .long) ∈ zGB) (hfr : 1 ≤ rm.frames) (hlo : (st.map fun v => v.category).sum + 13 ≤ rm.locals) (hc : cs.1 ≤ rm.cells ∧ cs.2 ≤ rm.slots) (ra : -9223372036854775808 < a ∧ a < 9223372036854775808 := by omega) (kk : zW E cs A m (pc + 3) lv (vl (a.natAbs : Int) :: st)) : zW E cs A m pc lv (vl a :: st) := by
  obtain ⟨p, l, e, R, s, mm, args, below, meth, c, D, B, Q⟩ := E
  obtain ⟨hx, hb, hml, hown, hts, hK, hB, hr, hlk, hR0⟩ := X
  intro H locs ls hR hS hL hn
  subst hR0
  refine va_mabs_long hx hb (by rw [hL.1, hn]) hown (hts _ w1) (hts _ w2) (hts _ w3) (hts _ w4) hfr hlo hc.1 hc.2 hd ?_
  have h := kk H locs ls hR hS hL hn
  have e : (if 0 < Int64.ofInt a then Int64.ofInt a else -Int64.ofInt a) = Int64.ofInt (a.natAbs : Int) := by
    by_cases hab : 0 < a
    · rw [if_pos (by rw [show (0 : Int64) = Int64.ofInt 0 from rfl]; exact (zL_lt (by omega) (by omega)).mpr hab)]
      exact congrArg Int64.ofInt (by omega)
    · rw [if_neg (by rw [show (0 : Int64) = Int64.ofInt 0 from rfl]; exact fun q => hab ((zL_lt (by omega) (by omega)).mp q)), ← Int64.ofInt_neg]
      exact congrArg Int64.ofInt (by omega)
  rw [e]
  exact h
end

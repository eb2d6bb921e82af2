/-! The abstract machine: memory as numbers (Int), shape and references apart from it; one rule an instruction. -/
abbrev zM : Type := Nat → Nat → Int
abbrev zE : Type := Nat ⊕ (Nat × Nat)
abbrev zA : Type := (Nat → Option zE) × (Nat → Nat → Option Nat) × Nat
abbrev zD : Type := (Nat → ClassId) × (Nat → Nat → Nat) × (Nat → ClassId)
abbrev zCx : Type := Program × Launch × Env × Room × State × MethodId × Array Value × List Frame × Method × Code × zD × Nat × (State → Prop)
abbrev zG : Type := Launch × zD × Nat
abbrev zMi : Type := MethodName × ByteArray × Nat × Option FieldType × Room
def vi (a : Int) : Value := .int (Int32.ofInt a)
def vl (a : Int) : Value := .long (Int64.ofInt a)
def vr (q : Nat) : Value := .ref q
/-- write a number -/
def zms (m : zM) (q k : Nat) (v : Int) : zM := fun a j => if a = q ∧ j = k then v else m a j
theorem zms_same (m : zM) (q k : Nat) (v : Int) : zms m q k v q k = v := by simp [zms]
theorem zms_ne (m : zM) (q k : Nat) (v : Int) {a j : Nat} (h : ¬ (a = q ∧ j = k)) : zms m q k v a j = m a j := by simp [zms, h]
theorem zms_nq (m : zM) (q k : Nat) (v : Int) {a : Nat} (j : Nat) (h : a ≠ q) : zms m q k v a j = m a j := by simp [zms, h]
theorem zms_nk (m : zM) (q k : Nat) (v : Int) (a : Nat) {j : Nat} (h : j ≠ k) : zms m q k v a j = m a j := by simp [zms, h]
def zC : Nat → String := fun ci => match ci with
  | 0 => RX0 | 1 => RX1 | 2 => RX2 | 3 => RX3 | 4 => RX4 | 5 => RX5 | 6 => RX6 | 7 => RX7 | _ => RX8
def zT : Nat → u_T := fun ci => match ci with
  | 0 => TX0 | 1 => TX1 | 2 => TX2 | 3 => TX3 | 4 => TX4 | 5 => TX5 | 6 => TX6 | 7 => TX7 | _ => TX8
def zN : Nat → Nat := fun ci => match ci with
  | 0 => 3 | 1 => 4 | 2 => 4 | 3 => 8 | 4 => 4 | 5 => 8 | 6 => 5 | 7 => 10 | _ => 26
def zty : Nat → Nat → FieldType := fun ci => match ci with
  | 0 => tyX0 | 1 => tyX1 | 2 => tyX2 | 3 => tyX3 | 4 => tyX4 | 5 => tyX5 | 6 => tyX6 | 7 => tyX7 | _ => tyX8
/-- what a field holds: 0 an int or a boolean, 1 a long, 2 a reference -/
def zkd (ci k : Nat) : Nat := match zty ci k with
  | .int => 0 | .boolean => 0 | .long => 1 | _ => 2
/-- array types: 0 int, 1 boolean, 2 Sum, 3 Span, 4 Constant -/
def zaT : Nat → FieldType := fun t => match t with
  | 0 => .int | 1 => .boolean | 2 => .object RX6 | 3 => .object RX5 | _ => .object RX1
def zov (ci q : Nat) (m : zM) (mr : Nat → Nat → Option Nat) : Nat → Value := fun k => if zkd ci k = 0 then vi (m q k) else if zkd ci k = 1 then vl (m q k) else va_rf (mr q k)
def zav (t q : Nat) (m : zM) (mr : Nat → Nat → Option Nat) : Nat → Value := fun j => if t < 2 then vi (m q j) else va_rf (mr q j)
def zat (D : zD) (A : zA) (m : zM) (H : Heap) (q : Nat) (e : zE) : Prop := match e with
  | .inl ci => ci < 9 ∧ t_OB q (D.1 ci) (zN ci) (D.2.1 ci) H (zov ci q m A.2.1)
  | .inr x => x.1 < 5 ∧ H[q]? = some (arrV (D.2.2 x.1) x.2 (zav x.1 q m A.2.1))
def zR (D : zD) (B : Nat) (A : zA) (m : zM) (H : Heap) : Prop := H.size = A.2.2 ∧ B ≤ A.2.2 ∧ ∀ q e, A.1 q = some e → B ≤ q ∧ q < A.2.2 ∧ zat D A m H q e
def zisN : Cond → Bool
  | .fieldLinkNest .. => true
  | .methodLinkNest .. => true
  | .arrayOver (.object _) => true
  | _ => false
def zGB : List Cond := lw_tbl.filter goodWord
def zNB : List Cond := tables_1.filter zisN
def zK (D : zD) (U : State) : Prop := (∀ ci, ci < 9 → u_Kn U (zC ci) (zT ci) (zN ci) (D.1 ci) (D.2.1 ci)) ∧ (∀ t, t < 5 → ArrOfT U (D.2.2 t) (zaT t) ∧ va_RA U (D.2.2 t) (zaT t)) ∧ ∀ w ∈ zNB, w.before #[] U = true
theorem zK.warm {D : zD} {s U : State} (hW : s.WarmedH U.vm) (h : zK D s) : zK D U := by
  refine ⟨fun ci hc => u_Kn_moved hW.alike (h.1 ci hc), fun t ht => ⟨arrOfT_moved hW.alike (h.2.1 t ht).1, (h.2.1 t ht).2.moved hW.alike⟩, fun w hw => ?_⟩
  have h1 := h.2.2 w hw
  have h2 := (List.mem_filter.mp hw).2
  cases w <;> first | (simp [zisN] at h2; done) | exact va_Nw.warmF hW h1 | exact va_Nw.warmM hW h1 | skip
  rename_i ty
  cases ty <;> first | (simp [zisN] at h2; done) | skip
  exact va_AO.moved hW.alike h1
theorem zK.same {D : zD} {s U : State} (hvm : s.vm = U.vm) (h : zK D s) : zK D U := by
  have ha : s.vm.Alike U.vm := by rw [hvm]; exact Vm.Alike.refl _
  refine ⟨fun ci hc => u_Kn_moved ha (h.1 ci hc), fun t ht => ⟨arrOfT_moved ha (h.2.1 t ht).1, (h.2.1 t ht).2.moved ha⟩, fun w hw => ?_⟩
  have h1 := h.2.2 w hw
  have h2 := (List.mem_filter.mp hw).2
  cases w <;> first | (simp [zisN] at h2; done) | exact va_Nw.same rfl hvm h1 | skip
  rename_i ty
  cases ty <;> first | (simp [zisN] at h2; done) | skip
  exact va_AO.moved ha h1
/-- locals -/
abbrev zLv : Type := List (Option Value)
def zL (ls : Array Slot) (lv : zLv) : Prop := ls.size = lv.length ∧ lv_wf ls ∧ ∀ (i : Nat) (v : Value), lv[i]? = some (some v) → ls[i]? = some (Slot.val v)
def zclr (lv : zLv) (i : Nat) : zLv := match i with
  | 0 => lv
  | k + 1 => match lv[k]? with
    | some (some w) => if w.category = 2 then lv.set k none else lv
    | _ => lv
def zs1 (lv : zLv) (i : Nat) (v : Value) : zLv := (zclr lv i).set i (some v)
def zs2 (lv : zLv) (i : Nat) (v : Value) : zLv := (zs1 lv i v).set (i + 1) none
theorem zclr_len (lv : zLv) (i : Nat) : (zclr lv i).length = lv.length := by
  unfold zclr
  split
  · rfl
  · split
    · split <;> simp
    · rfl
theorem zclr_get {lv : zLv} {i j : Nat} {v : Value} (h : (zclr lv i)[j]? = some (some v)) : lv[j]? = some (some v) ∧ ¬ (j + 1 = i ∧ v.category = 2) := by
  unfold zclr at h
  split at h
  · exact ⟨h, by omega⟩
  · rename_i k
    split at h
    · rename_i w hw
      split at h
      · rename_i hc
        by_cases hjk : j = k
        · subst hjk
          rw [List.getElem?_set_self (by exact (List.getElem?_eq_some_iff.mp hw).1)] at h
          cases h
        · rw [List.getElem?_set_ne (Ne.symm hjk)] at h
          exact ⟨h, fun q => hjk (by omega)⟩
      · rename_i hc
        refine ⟨h, fun q => ?_⟩
        have hjk : j = k := by omega
        subst hjk
        rw [hw] at h
        cases h
        exact hc q.2
    · rename_i hn
      refine ⟨h, fun q => ?_⟩
      have hjk : j = k := by omega
      subst hjk
      exact hn v h
/-- the list of listed locals that the kit's rows speak of -/
def zas (lv : zLv) : List (Nat × Value) := (List.range lv.length).filterMap (fun i => match lv[i]? with | some (some v) => some (i, v) | _ => none)
theorem zas_mem {lv : zLv} {i : Nat} {v : Value} : (i, v) ∈ zas lv ↔ lv[i]? = some (some v) := by
  unfold zas
  rw [List.mem_filterMap]
  constructor
  · rintro ⟨k, -, h2⟩
    split at h2
    · rename_i w hw
      cases h2
      exact hw
    · cases h2
  · intro h
    refine ⟨i, List.mem_range.mpr (List.getElem?_eq_some_iff.mp h).1, ?_⟩
    rw [h]
theorem zL.has {ls : Array Slot} {lv : zLv} (h : zL ls lv) : lv_has ls lv.length (zas lv) := ⟨h.1, h.2.1, fun q hq => h.2.2 q.1 q.2 (zas_mem.mp hq)⟩
theorem zL.at {ls : Array Slot} {lv : zLv} (h : zL ls lv) {i : Nat} {v : Value} (hi : lv[i]? = some (some v)) : ls[i]? = some (.val v) := h.2.2 i v hi
theorem zL.s1 {ls : Array Slot} {lv : zLv} {nL i : Nat} {v : Value} (hn : lv.length = nL) (hi : i < nL) {l' : List (Nat × Value)} (hl : (i, v) :: (zas lv).filter (fun q => !(q.1 == i) && !(q.1 + 1 == i && q.2.category == 2)) = l') (h : lv_has ls nL l') : zL ls (zs1 lv i v) := by
  subst hl
  refine ⟨by rw [h.1, ← hn]; simp [zs1, zclr_len], h.2.1, fun j w hj => ?_⟩
  unfold zs1 at hj
  by_cases hji : j = i
  · subst hji
    rw [List.getElem?_set_self (by rw [zclr_len]; omega)] at hj
    cases hj
    exact h.2.2 (j, v) List.mem_cons_self
  · rw [List.getElem?_set_ne (Ne.symm hji)] at hj
    obtain ⟨h1, h2⟩ := zclr_get hj
    refine h.2.2 (j, w) (List.mem_cons_of_mem _ (List.mem_filter.mpr ⟨zas_mem.mpr h1, ?_⟩))
    have hji' : (j == i) = false := by simp [hji]
    have h3 : (j + 1 == i && w.category == 2) = false := by
      cases ha : (j + 1 == i && w.category == 2)
      · rfl
      · exfalso
        simp only [Bool.and_eq_true, beq_iff_eq] at ha
        exact h2 ha
    show (!(j == i) && !(j + 1 == i && w.category == 2)) = true
    rw [hji', h3]; rfl
theorem zL.s2 {ls : Array Slot} {lv : zLv} {nL i : Nat} {v : Value} (hn : lv.length = nL) (hi : i + 1 < nL) {l' : List (Nat × Value)} (hl : (i, v) :: (zas lv).filter (fun q => !(q.1 == i) && (!(q.1 == i + 1) && !(q.1 + 1 == i && q.2.category == 2))) = l') (h : lv_has ls nL l') : zL ls (zs2 lv i v) := by
  subst hl
  refine ⟨by rw [h.1, ← hn]; simp [zs2, zs1, zclr_len], h.2.1, fun j w hj => ?_⟩
  unfold zs2 zs1 at hj
  by_cases hj1 : j = i + 1
  · subst hj1
    rw [List.getElem?_set_self (by rw [List.length_set, zclr_len]; omega)] at hj
    cases hj
  rw [List.getElem?_set_ne (Ne.symm hj1)] at hj
  by_cases hji : j = i
  · subst hji
    rw [List.getElem?_set_self (by rw [zclr_len]; omega)] at hj
    cases hj
    exact h.2.2 (j, v) List.mem_cons_self
  · rw [List.getElem?_set_ne (Ne.symm hji)] at hj
    obtain ⟨h1, h2⟩ := zclr_get hj
    refine h.2.2 (j, w) (List.mem_cons_of_mem _ (List.mem_filter.mpr ⟨zas_mem.mpr h1, ?_⟩))
    have hji' : (j == i) = false := by simp [hji]
    have hj1' : (j == i + 1) = false := by simp [hj1]
    have h3 : (j + 1 == i && w.category == 2) = false := by
      cases ha : (j + 1 == i && w.category == 2)
      · rfl
      · exfalso
        simp only [Bool.and_eq_true, beq_iff_eq] at ha
        exact h2 ha
    show (!(j == i) && (!(j == i + 1) && !(j + 1 == i && w.category == 2))) = true
    rw [hji', hj1', h3]; rfl
/-- the judgement -/
def zW (E : zCx) (cs : Nat × Nat) (A : zA) (m : zM) (pc : Nat) (lv : zLv) (st : List Value) : Prop := match E with
  | (p, l, e, R, s, mm, args, below, meth, c, D, B, Q) => ∀ (H : Heap) (locs : List Loc) (ls : Array Slot), zR D B A m H → va_S (fun q => B ≤ q) s.heap H locs → zL ls lv → lv.length = c.maxLocals → W p l e R s mm args below meth c H locs cs.1 cs.2 Q (F0 mm pc ls st)
def zOK (E : zCx) (cc : ByteArray) (own : String) (nL : Nat) (ret : Option FieldType) (rm : Room) : Prop := match E with
  | (p, _, _, R, s, mm, args, _, meth, c, D, B, _) => p.tables.exec = Jvm.exec ∧ c.code = cc ∧ c.maxLocals = nL ∧ s.vm.findClass own = some mm.cls ∧ (∀ w ∈ zGB, w.before args s = true) ∧ zK D s ∧ B ≤ s.heap.size ∧ meth.sig.returnType = ret ∧ meth.locks = false ∧ R = rm
def zg (E : zCx) : zG := match E with
  | (_, l, _, _, _, _, _, _, _, _, D, B, _) => (l, D, B)
def zPc (D : zD) (B : Nat) (av : List Value) (A : zA) (m : zM) : Array Value → State → Prop := fun v U => v = av.toArray ∧ zR D B A m U.heap ∧ zK D U
def zQc (D : zD) (B : Nat) (post : Option Value → zA → zM → Prop) : Array Value → State → Outcome → State → Prop := fun _ st o t => ∃ (r : Option Value) (A' : zA) (m' : zM), o = .returned r ∧ post r A' m' ∧ zR D B A' m' t.heap ∧ va_F (fun q => B ≤ q) st t
def zMet (G : zG) (k : zMi) (av : List Value) (A : zA) (m : zM) (post : Option Value → zA → zM → Prop) : Prop := Met G.1 k.1 (Cond.code k.1 k.2.1 k.2.2.1 k.2.2.2.1 :: zGB) k.2.2.2.2 (zPc G.2.1 G.2.2 av A m) (zQc G.2.1 G.2.2 post) k.2.2.2.2.cells k.2.2.2.2.slots (fun q => G.2.2 ≤ q)
def zRet (E : zCx) (post : Option Value → zA → zM → Prop) (mc ms : Nat) : Prop := match E with
  | (_, _, _, _, s, _, args, below, _, _, D, B, Q) => Q = MQ below (zQc D B post) args s mc ms (fun q => B ≤ q)
def zNm (E : zCx) (nm : String) : Prop := match E with
  | (_, _, _, _, _, _, _, _, meth, _, _, _, _) => meth.name = nm
def zargs (vs : List Value) : zLv := vs.flatMap fun v => if v.category = 2 then [some v, none] else [some v]
theorem zargs_len (vs : List Value) : (zargs vs).length = (lg_sl vs).length := by
  induction vs with
  | nil => rfl
  | cons v vs ih =>
    simp only [zargs, lg_sl, List.flatMap_cons, List.length_append] at ih ⊢
    rw [ih]
    by_cases h : v.category = 2 <;> simp [h]
theorem zargs_get (vs : List Value) : ∀ (i : Nat) (v : Value), (zargs vs)[i]? = some (some v) → (lg_sl vs)[i]? = some (.val v) := by
  induction vs with
  | nil => intro i v h; simp [zargs] at h
  | cons w vs ih =>
    intro i v h
    simp only [zargs, lg_sl, List.flatMap_cons] at ih h ⊢
    by_cases hc : w.category = 2
    · simp only [hc, if_true] at h ⊢
      match i, h with
      | 0, h => simp at h; simp [h]
      | 1, h => simp at h
      | i + 2, h =>
        simp only [List.cons_append, List.nil_append, List.getElem?_cons_succ] at h ⊢
        exact ih i v h
    · simp only [hc, if_false] at h ⊢
      match i, h with
      | 0, h => simp at h; simp [h]
      | i + 1, h =>
        simp only [List.cons_append, List.nil_append, List.getElem?_cons_succ] at h ⊢
        exact ih i v h
theorem zL.entry (vs : List Value) {n : Nat} (h : (lg_sl vs).length ≤ n) : zL ((lg_sl vs ++ List.replicate (n - (lg_sl vs).length) Slot.unset).toArray) (zargs vs ++ List.replicate (n - (lg_sl vs).length) none) := by
  have h1 := lv_entry vs h
  refine ⟨by simp [zargs_len], h1.2.1, fun i v hi => ?_⟩
  by_cases hl : i < (zargs vs).length
  · rw [List.getElem?_append_left hl] at hi
    have h2 := zargs_get vs i v hi
    rw [List.getElem?_toArray, List.getElem?_append_left (by rw [← zargs_len]; exact hl)]
    exact h2
  · rw [List.getElem?_append_right (by omega)] at hi
    rw [List.getElem?_replicate] at hi
    split at hi <;> simp at hi
theorem zMet.of {G : zG} {y : MethodName} {cc : ByteArray} {maxL : Nat} {ret : Option FieldType} {rm : Room} {av : List Value} {A : zA} {m : zM} {post : Option Value → zA → zM → Prop} (own : String) (hown : y.cls = own) (hy : plainName y.cls = true) (hlen : (lg_sl av).length ≤ maxL) (lv : zLv) (hlv : zargs av ++ List.replicate (maxL - (lg_sl av).length) none = lv)
    (body : ∀ E : zCx, zg E = G → zOK E cc own maxL ret rm → zRet E post rm.cells rm.slots → zNm E y.name → zW E (0, 0) A m 0 lv []) : zMet G (y, cc, maxL, ret, rm) av A m post := by
  subst hown
  obtain ⟨l, D, B⟩ := G
  refine Met.ofW (cc := cc) (maxL := maxL) (ret := ret) hy rfl ?_
  intro p e s mm args below meth c s₁ Bd hml hv
  obtain ⟨rfl, hR, hK⟩ := hv
  have hx := Bd.exec
  have hb := Bd.bytes
  have hr := Bd.returns
  have hts := atoms_spec (ws := Cond.code y cc maxL ret :: zGB) Bd.pre
  have hown : s.vm.findClass y.cls = some mm.cls := findClass_of_methodNamed Bd.named
  have hlocks := Bd.notSynchronized
  have hB : B ≤ s.heap.size := by rw [hR.1]; exact hR.2.1
  have K := body (p, l, e, rm, s, mm, av.toArray, below, meth, c, D, B, MQ below (zQc D B post) av.toArray s rm.cells rm.slots (fun q => B ≤ q)) rfl ⟨hx, hb, hml, hown, fun w hw => hts w (List.mem_cons_of_mem _ hw), hK, hB, hr, hlocks, rfl⟩ rfl (name_of_methodNamed Bd.named Bd.method).1
  have K2 := K s.heap [] ((lg_sl av ++ List.replicate (maxL - (lg_sl av).length) Slot.unset).toArray) hR va_S.rf (by rw [← hlv]; exact zL.entry av hlen) (by rw [← hlv, hml]; simp [zargs_len]; omega)
  rw [lg_entry_eq]
  exact K2

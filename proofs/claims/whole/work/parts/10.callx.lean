section
variable {E : zCx} {cc : ByteArray} {own : String} {nL : Nat} {ret : Option FieldType} {rm : Room} {cs : Nat × Nat} {A : zA} {m : zM} {pc : Nat} {lv : zLv} {st : List Value}
theorem zcs0 {k : zMi} (h0 : k.2.2.2.2.cells = 0 ∧ k.2.2.2.2.slots = 0) (cs : Nat × Nat) : (cs.1 + k.2.2.2.2.cells, cs.2 + k.2.2.2.2.slots) = cs := by rw [h0.1, h0.2]; rfl
theorem z_callVv (X : zOK E cc own nL ret rm) {idx n : Nat} {b ci : Nat} {k : zMi} {As rest : List Value} {P : zM → Prop} (hd : decode cc pc = .ok (.invokevirtual idx, 3)) (hw : zMw k n) (hi : zIn k) (hl : zLk own idx k) (hM : zMet (zg E) k (vr b :: As) A m (zpv A P)) (hs : A.1 b = some (.inl ci)) (hci : zC ci = k.1.cls) (hst : st = As.reverse ++ vr b :: rest) (hlen : As.length = n) (hrest : (rest.map fun v => v.category).sum ≤ 8) (hroom : k.2.2.2.2.frames + 1 ≤ rm.frames ∧ 8 + (k.2.2.1 + 11) + k.2.2.2.2.locals ≤ rm.locals) (hf : cs.1 + k.2.2.2.2.cells ≤ rm.cells ∧ cs.2 + k.2.2.2.2.slots ≤ rm.slots) (h0 : k.2.2.2.2.cells = 0 ∧ k.2.2.2.2.slots = 0)
    (kk : ∀ m1, P m1 → zW E cs A m1 (pc + 3) lv rest) : zW E cs A m pc lv st := by
  refine z_callV X hd hw hi hl hM hs hci hst hlen hrest hroom hf (fun r A' m' hp => ?_)
  obtain ⟨rfl, rfl, hp⟩ := hp
  rw [zcs0 h0]
  exact kk m' hp
theorem z_callVi (X : zOK E cc own nL ret rm) {idx n : Nat} {b ci : Nat} {k : zMi} {As rest : List Value} {P : Int → zM → Prop} (hd : decode cc pc = .ok (.invokevirtual idx, 3)) (hw : zMw k n) (hi : zIn k) (hl : zLk own idx k) (hM : zMet (zg E) k (vr b :: As) A m (zpi A P)) (hs : A.1 b = some (.inl ci)) (hci : zC ci = k.1.cls) (hst : st = As.reverse ++ vr b :: rest) (hlen : As.length = n) (hrest : (rest.map fun v => v.category).sum ≤ 8) (hroom : k.2.2.2.2.frames + 1 ≤ rm.frames ∧ 8 + (k.2.2.1 + 11) + k.2.2.2.2.locals ≤ rm.locals) (hf : cs.1 + k.2.2.2.2.cells ≤ rm.cells ∧ cs.2 + k.2.2.2.2.slots ≤ rm.slots) (h0 : k.2.2.2.2.cells = 0 ∧ k.2.2.2.2.slots = 0)
    (kk : ∀ r m1, P r m1 → zW E cs A m1 (pc + 3) lv (vi r :: rest)) : zW E cs A m pc lv st := by
  refine z_callV X hd hw hi hl hM hs hci hst hlen hrest hroom hf (fun r A' m' hp => ?_)
  obtain ⟨rfl, x, rfl, hp⟩ := hp
  rw [zcs0 h0]
  exact kk x m' hp
theorem z_callVl (X : zOK E cc own nL ret rm) {idx n : Nat} {b ci : Nat} {k : zMi} {As rest : List Value} {P : Int → zM → Prop} (hd : decode cc pc = .ok (.invokevirtual idx, 3)) (hw : zMw k n) (hi : zIn k) (hl : zLk own idx k) (hM : zMet (zg E) k (vr b :: As) A m (zpl A P)) (hs : A.1 b = some (.inl ci)) (hci : zC ci = k.1.cls) (hst : st = As.reverse ++ vr b :: rest) (hlen : As.length = n) (hrest : (rest.map fun v => v.category).sum ≤ 8) (hroom : k.2.2.2.2.frames + 1 ≤ rm.frames ∧ 8 + (k.2.2.1 + 11) + k.2.2.2.2.locals ≤ rm.locals) (hf : cs.1 + k.2.2.2.2.cells ≤ rm.cells ∧ cs.2 + k.2.2.2.2.slots ≤ rm.slots) (h0 : k.2.2.2.2.cells = 0 ∧ k.2.2.2.2.slots = 0)
    (kk : ∀ r m1, P r m1 → zW E cs A m1 (pc + 3) lv (vl r :: rest)) : zW E cs A m pc lv st := by
  refine z_callV X hd hw hi hl hM hs hci hst hlen hrest hroom hf (fun r A' m' hp => ?_)
  obtain ⟨rfl, x, rfl, hp⟩ := hp
  rw [zcs0 h0]
  exact kk x m' hp
theorem z_callVr (X : zOK E cc own nL ret rm) {idx n : Nat} {b ci : Nat} {k : zMi} {As rest : List Value} {P : Option Nat → zM → Prop} (hd : decode cc pc = .ok (.invokevirtual idx, 3)) (hw : zMw k n) (hi : zIn k) (hl : zLk own idx k) (hM : zMet (zg E) k (vr b :: As) A m (zpr A P)) (hs : A.1 b = some (.inl ci)) (hci : zC ci = k.1.cls) (hst : st = As.reverse ++ vr b :: rest) (hlen : As.length = n) (hrest : (rest.map fun v => v.category).sum ≤ 8) (hroom : k.2.2.2.2.frames + 1 ≤ rm.frames ∧ 8 + (k.2.2.1 + 11) + k.2.2.2.2.locals ≤ rm.locals) (hf : cs.1 + k.2.2.2.2.cells ≤ rm.cells ∧ cs.2 + k.2.2.2.2.slots ≤ rm.slots) (h0 : k.2.2.2.2.cells = 0 ∧ k.2.2.2.2.slots = 0)
    (kk : ∀ r m1, P r m1 → zW E cs A m1 (pc + 3) lv (va_rf r :: rest)) : zW E cs A m pc lv st := by
  refine z_callV X hd hw hi hl hM hs hci hst hlen hrest hroom hf (fun r A' m' hp => ?_)
  obtain ⟨rfl, x, rfl, hp⟩ := hp
  rw [zcs0 h0]
  exact kk x m' hp
theorem z_callSv (X : zOK E cc own nL ret rm) {idx n : Nat} {k : zMi} {As rest : List Value} {P : zM → Prop} (hd : decode cc pc = .ok (.invokestatic idx, 3)) (hw : zMw k n) (hi : Cond.static k.1 ∈ zGB) (hl : zLk own idx k) (hM : zMet (zg E) k (As) A m (zpv A P)) (hst : st = As.reverse ++ rest) (hlen : As.length = n) (hrest : (rest.map fun v => v.category).sum ≤ 8) (hroom : k.2.2.2.2.frames + 1 ≤ rm.frames ∧ 8 + (k.2.2.1 + 11) + k.2.2.2.2.locals ≤ rm.locals) (hf : cs.1 + k.2.2.2.2.cells ≤ rm.cells ∧ cs.2 + k.2.2.2.2.slots ≤ rm.slots) (h0 : k.2.2.2.2.cells = 0 ∧ k.2.2.2.2.slots = 0)
    (kk : ∀ m1, P m1 → zW E cs A m1 (pc + 3) lv rest) : zW E cs A m pc lv st := by
  refine z_callS X hd hw hi hl hM hst hlen hrest hroom hf (fun r A' m' hp => ?_)
  obtain ⟨rfl, rfl, hp⟩ := hp
  rw [zcs0 h0]
  exact kk m' hp
theorem z_callSi (X : zOK E cc own nL ret rm) {idx n : Nat} {k : zMi} {As rest : List Value} {P : Int → zM → Prop} (hd : decode cc pc = .ok (.invokestatic idx, 3)) (hw : zMw k n) (hi : Cond.static k.1 ∈ zGB) (hl : zLk own idx k) (hM : zMet (zg E) k (As) A m (zpi A P)) (hst : st = As.reverse ++ rest) (hlen : As.length = n) (hrest : (rest.map fun v => v.category).sum ≤ 8) (hroom : k.2.2.2.2.frames + 1 ≤ rm.frames ∧ 8 + (k.2.2.1 + 11) + k.2.2.2.2.locals ≤ rm.locals) (hf : cs.1 + k.2.2.2.2.cells ≤ rm.cells ∧ cs.2 + k.2.2.2.2.slots ≤ rm.slots) (h0 : k.2.2.2.2.cells = 0 ∧ k.2.2.2.2.slots = 0)
    (kk : ∀ r m1, P r m1 → zW E cs A m1 (pc + 3) lv (vi r :: rest)) : zW E cs A m pc lv st := by
  refine z_callS X hd hw hi hl hM hst hlen hrest hroom hf (fun r A' m' hp => ?_)
  obtain ⟨rfl, x, rfl, hp⟩ := hp
  rw [zcs0 h0]
  exact kk x m' hp
theorem z_callSl (X : zOK E cc own nL ret rm) {idx n : Nat} {k : zMi} {As rest : List Value} {P : Int → zM → Prop} (hd : decode cc pc = .ok (.invokestatic idx, 3)) (hw : zMw k n) (hi : Cond.static k.1 ∈ zGB) (hl : zLk own idx k) (hM : zMet (zg E) k (As) A m (zpl A P)) (hst : st = As.reverse ++ rest) (hlen : As.length = n) (hrest : (rest.map fun v => v.category).sum ≤ 8) (hroom : k.2.2.2.2.frames + 1 ≤ rm.frames ∧ 8 + (k.2.2.1 + 11) + k.2.2.2.2.locals ≤ rm.locals) (hf : cs.1 + k.2.2.2.2.cells ≤ rm.cells ∧ cs.2 + k.2.2.2.2.slots ≤ rm.slots) (h0 : k.2.2.2.2.cells = 0 ∧ k.2.2.2.2.slots = 0)
    (kk : ∀ r m1, P r m1 → zW E cs A m1 (pc + 3) lv (vl r :: rest)) : zW E cs A m pc lv st := by
  refine z_callS X hd hw hi hl hM hst hlen hrest hroom hf (fun r A' m' hp => ?_)
  obtain ⟨rfl, x, rfl, hp⟩ := hp
  rw [zcs0 h0]
  exact kk x m' hp
theorem z_callSr (X : zOK E cc own nL ret rm) {idx n : Nat} {k : zMi} {As rest : List Value} {P : Option Nat → zM → Prop} (hd : decode cc pc = .ok (.invokestatic idx, 3)) (hw : zMw k n) (hi : Cond.static k.1 ∈ zGB) (hl : zLk own idx k) (hM : zMet (zg E) k (As) A m (zpr A P)) (hst : st = As.reverse ++ rest) (hlen : As.length = n) (hrest : (rest.map fun v => v.category).sum ≤ 8) (hroom : k.2.2.2.2.frames + 1 ≤ rm.frames ∧ 8 + (k.2.2.1 + 11) + k.2.2.2.2.locals ≤ rm.locals) (hf : cs.1 + k.2.2.2.2.cells ≤ rm.cells ∧ cs.2 + k.2.2.2.2.slots ≤ rm.slots) (h0 : k.2.2.2.2.cells = 0 ∧ k.2.2.2.2.slots = 0)
    (kk : ∀ r m1, P r m1 → zW E cs A m1 (pc + 3) lv (va_rf r :: rest)) : zW E cs A m pc lv st := by
  refine z_callS X hd hw hi hl hM hst hlen hrest hroom hf (fun r A' m' hp => ?_)
  obtain ⟨rfl, x, rfl, hp⟩ := hp
  rw [zcs0 h0]
  exact kk x m' hp
end

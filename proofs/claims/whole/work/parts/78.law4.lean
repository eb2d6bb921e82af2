/-! What the start of the law gives -/
theorem zK_start {s : State} {args : Array Value} (hts : ∀ w ∈ lw_tbl, w.before args s = true) : ∃ D : zD, zK D s := by
  have hGB : ∀ w ∈ zGB, w.before args s = true := fun w hw => hts w (List.mem_filter.mp hw).1
  have hia : ∀ ci, ci < 9 → Cond.instantiable (zC ci) (zN ci) ∈ zGB := by
    intro ci hc
    match ci, hc with
    | 0, _ => exact ia_0
    | 1, _ => exact ia_1
    | 2, _ => exact ia_2
    | 3, _ => exact ia_3
    | 4, _ => exact ia_4
    | 5, _ => exact ia_5
    | 6, _ => exact ia_6
    | 7, _ => exact ia_7
    | 8, _ => exact ia_8
    | k + 9, h => exact absurd h (by omega)
  have h1 : ∀ ci, ∃ x : ClassId × (Nat → Nat), ci < 9 → u_Kn s (zC ci) (zT ci) (zN ci) x.1 x.2 := by
    intro ci
    by_cases hc : ci < 9
    · obtain ⟨c, iS, h⟩ := u_known (C := zC ci) (T := zT ci) (N := zN ci) (n := zN ci) hGB (zCw hc) (hGB _ (hia ci hc))
      exact ⟨(c, iS), fun _ => h⟩
    · obtain ⟨c, iS, h⟩ := u_known (C := zC 0) (T := zT 0) (N := zN 0) (n := zN 0) hGB (zCw (by omega)) (hGB _ ia_0)
      exact ⟨(c, iS), fun h => absurd h hc⟩
  have hA : ∀ ty : FieldType, ty = .int ∨ ty = .boolean → Cond.arrayClass ty ∈ zGB → ∃ c : ClassId, ArrOfT s c ty ∧ va_RA s c ty := by
    intro ty h0 h
    obtain ⟨c, k, comp, f1, f2, f3⟩ := Cond.arrayClass_spec (hGB _ h)
    refine ⟨c, fun n z => ⟨(fun k h => by cases h), k, f2, comp, f3⟩, ?_⟩
    rcases h0 with rfl | rfl <;> exact f1
  have hO : ∀ C : String, Cond.arrayOver (.object C) ∈ zNB → ∃ c : ClassId, ArrOfT s c (.object C) ∧ va_RA s c (.object C) := by
    intro C h
    have h2 : (Cond.arrayOver (.object C)).before args s = true := hts _ (List.mem_append.mpr (Or.inr (List.mem_filter.mp h).1))
    obtain ⟨comp, c, k, f1, -, f3, f4, f5⟩ := Cond.arrayOver_spec h2
    exact ⟨c, fun n z => ⟨(fun k h => by cases h), k, f3, comp, f4⟩, k, comp, f3, f4, f1, f5⟩
  have h2 : ∀ t, ∃ c : ClassId, t < 5 → ArrOfT s c (zaT t) ∧ va_RA s c (zaT t) := by
    intro t
    match t with
    | 0 => obtain ⟨c, h⟩ := hA .int (Or.inl rfl) ac_int; exact ⟨c, fun _ => h⟩
    | 1 => obtain ⟨c, h⟩ := hA .boolean (Or.inr rfl) ac_boolean; exact ⟨c, fun _ => h⟩
    | 2 => obtain ⟨c, h⟩ := hO _ ao_6; exact ⟨c, fun _ => h⟩
    | 3 => obtain ⟨c, h⟩ := hO _ ao_5; exact ⟨c, fun _ => h⟩
    | 4 => obtain ⟨c, h⟩ := hO _ ao_1; exact ⟨c, fun _ => h⟩
    | k + 5 => obtain ⟨c, h⟩ := hA .int (Or.inl rfl) ac_int; exact ⟨c, fun h => absurd h (by omega)⟩
  refine ⟨(fun ci => (Classical.choose (h1 ci)).1, fun ci => (Classical.choose (h1 ci)).2, fun t => Classical.choose (h2 t)), fun ci hc => Classical.choose_spec (h1 ci) hc, fun t ht => Classical.choose_spec (h2 t) ht, fun w hw => ?_⟩
  obtain ⟨hw1, hw2⟩ := List.mem_filter.mp hw
  have h3 : w.before args s = true := hts _ (List.mem_append.mpr (Or.inr hw1))
  cases w <;> first | (simp [zisN] at hw2; done) | exact va_Nw.of rfl h3 | exact h3
theorem law_enter {p : Program} {l : Launch} {e : Env} {s : State} {m : MethodId} {below : List Frame} {meth : Method} {c : Code} {D : zD} {Q : State → Prop} {b0 L : Nat} {xs : Nat → Int32} (hL : L ≤ 3072)
    (X : zOK (p, l, e, room_1, s, m, #[Value.ref b0], below, meth, c, D, s.heap.size, Q) cL_law RL 4 ret room_1) (hX : zScr (p, l, e, room_1, s, m, #[Value.ref b0], below, meth, c, D, s.heap.size, Q) b0 L xs)
    (hE : ∀ (A : zA) (mm : zM) (b i : Nat), zW (p, l, e, room_1, s, m, #[Value.ref b0], below, meth, c, D, s.heap.size, Q) (166, 80481) A mm 1117 [some (vr b0), some (vr b), some (vr (b + 149)), some (vi (i : Int))] []) :
    zW (p, l, e, room_1, s, m, #[Value.ref b0], below, meth, c, D, s.heap.size, Q) (0, 0) (fun _ => none, fun _ _ => none, s.heap.size) (fun _ _ => 0) 0 [some (vr b0), none, none, none] [] := by
  generalize hEE : (p, l, e, room_1, s, m, #[Value.ref b0], below, meth, c, D, s.heap.size, Q) = E at X hX hE ⊢
  clear hEE
  generalize s.heap.size = b
  generalize hA0 : ((fun _ => none, fun _ _ => none, b) : zA) = A0
  have hb : A0.2.2 = b := by rw [← hA0]
  clear hA0
  refine z_new X dL_law_0 (by decide) c_L_7 ia_7 in_7 (Nat.le_of_ble_eq_true rfl) (Nat.le_of_ble_eq_true rfl) ?_
  rw [hb]
  refine z_dup X dL_law_3 rfl ?_
  refine z_callIc X (As := []) (rest := [vr b]) dL_law_4 rfl m_X7_init i_X7_init l_L_9 (c_X7_init (zg E) (b := b) (by simp [znew, zsh, hb]) (by simp [znew, hb]) (fun j => by simp [zmz])) rfl rfl (Nat.le_of_ble_eq_true rfl) ⟨Nat.le_of_ble_eq_true rfl, Nat.le_of_ble_eq_true rfl⟩ ⟨Nat.le_of_ble_eq_true rfl, Nat.le_of_ble_eq_true rfl⟩ (fun A1 m1 h => ?_)
  obtain ⟨⟨hA1, hm1⟩, hn1, -⟩ := h
  refine z_astore_n X dL_law_7 [_, _, _, _] (by decide) rfl ?_
  refine z_new X dL_law_8 (by decide) c_L_10 ia_8 in_8 (Nat.le_of_ble_eq_true rfl) (Nat.le_of_ble_eq_true rfl) ?_
  rw [hn1]
  refine z_dup X dL_law_11 rfl ?_
  refine z_callIc X (As := []) (rest := [vr (b + 149)]) dL_law_12 rfl m_X8_init i_X8_init l_L_12 (c_X8_init (zg E) (q := b + 149) (by simp [znew, zsh, hn1]) (by simp [znew, hn1]) (fun j => by simp [zmz])) rfl rfl (Nat.le_of_ble_eq_true rfl) ⟨Nat.le_of_ble_eq_true rfl, Nat.le_of_ble_eq_true rfl⟩ ⟨Nat.le_of_ble_eq_true rfl, Nat.le_of_ble_eq_true rfl⟩ (fun A2 m2 h => ?_)
  obtain ⟨⟨hA2, hm2⟩, hn2, hf⟩ := h
  have hf1 : zFr (b + 149) A1 m1 (znew A1 (.inl 8)) (zmz m1 (b + 149)) := by
    refine ⟨fun a ha => ?_, fun a j ha => ?_, fun a j ha => ?_⟩
    · simp [znew, zsh, hn1, show a ≠ b + 149 by omega]
    · simp [znew, zrz, hn1, show a ≠ b + 149 by omega]
    · simp [zmz, show a ≠ b + 149 by omega]
  have hf2 := hf1.t hf (Nat.le_refl _)
  have hA3 := hA1.f hf2 (Nat.le_refl _)
  have hm3 : zCR b m2 zS0 := hm1.e (fun a j _ => hf2.2.2 a j (by omega))
  refine z_astore_n X dL_law_15 [_, _, _, _] (by decide) rfl ?_
  refine z_iconst X dL_law_16 ?_
  refine z_istore_n X dL_law_17 (fun y => [_, _, _, some (vi y)]) (by decide) (fun _ => rfl) (fun x3 hx3 => ?_)
  subst hx3
  exact law_loop X hX hL hA3 hA2 (fun m i => hE A2 m b i) (L + 1) 0 m2 zS0 (by omega) (by omega) hm3 hm2 zStok_0

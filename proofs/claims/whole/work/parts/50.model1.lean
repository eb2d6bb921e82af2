/-! The model: its slots of words of 32 bits; set, copy -/
section
variable {E : zCx} {cc : ByteArray} {own : String} {nL : Nat} {ret : Option FieldType} {rm : Room} {cs : Nat × Nat} {A : zA} {m : zM} {pc : Nat} {lv : zLv} {st : List Value}
theorem z_i2lm {a : Int} {index : Nat} {v : Int64} (X : zOK E cc own nL ret rm) (hd1 : decode cc pc = .ok (.i2l, 1)) (hd2 : decode cc (pc + 1) = .ok (.ldc2_w index, 3)) (hw : Cond.constantLong own index v ∈ zGB) (hd3 : decode cc (pc + 1 + 3) = .ok (.land, 1)) (kk : zW E cs A m (pc + 1 + 3 + 1) lv (vl (a % 4294967296) :: st)) (hv : v = Int64.ofInt 4294967295 := by decide) : zW E cs A m pc lv (vi a :: st) := by
  refine z_i2lu X hd1 ?_
  refine z_ldc2 X hd2 hw 4294967295 hv ?_
  refine z_land X hd3 32 (by omega) (by decide) 4294967296 (by decide) ?_
  have e : Int.bmod a 4294967296 % 4294967296 = a % 4294967296 := by
    rw [show (4294967296 : Int) = ((4294967296 : Nat) : Int) from rfl, Int.bmod_emod]
  rw [e]
  exact kk
end
abbrev zi64 (x : Int) : Prop := -9223372036854775808 ≤ x ∧ x < 9223372036854775808
def zmodA (A : zA) (q : Nat) : Prop := (A.1 q = some (.inl 8) ∧ A.2.1 q 0 = some (q + 1) ∧ A.2.1 q 1 = some (q + 2) ∧ A.2.1 q 2 = some (q + 3) ∧ A.2.1 q 3 = some (q + 4) ∧ A.2.1 q 4 = some (q + 5) ∧ A.2.1 q 5 = some (q + 6) ∧ A.2.1 q 6 = some (q + 7) ∧ A.2.1 q 7 = some (q + 8) ∧ A.2.1 q 8 = some (q + 9) ∧ A.2.1 q 9 = some (q + 10) ∧ A.2.1 q 10 = some (q + 11) ∧ A.2.1 q 11 = some (q + 12) ∧ A.2.1 q 12 = some (q + 13) ∧ A.2.1 q 16 = some (q + 14) ∧ A.2.1 q 24 = some (q + 15) ∧ A.2.1 q 25 = some (q + 16)) ∧ (A.1 (q + 1) = some (.inr (0, 72000)) ∧ A.1 (q + 2) = some (.inr (0, 60)) ∧ A.1 (q + 3) = some (.inr (1, 60))) ∧ (A.1 (q + 4) = some (.inr (0, 72)) ∧ A.1 (q + 5) = some (.inr (0, 6)) ∧ A.1 (q + 6) = some (.inr (0, 6)) ∧ A.1 (q + 7) = some (.inr (0, 8)) ∧ A.1 (q + 8) = some (.inr (0, 8)) ∧ A.1 (q + 9) = some (.inr (0, 8))) ∧ (A.1 (q + 10) = some (.inr (0, 4)) ∧ A.1 (q + 11) = some (.inr (0, 16)) ∧ A.1 (q + 12) = some (.inr (0, 16)) ∧ A.1 (q + 13) = some (.inr (0, 16))) ∧ A.1 (q + 14) = some (.inr (0, 100)) ∧ A.1 (q + 15) = some (.inr (0, 100)) ∧ A.1 (q + 16) = some (.inr (0, 100))
/-- the words of slot s -/
def zwd (m : zM) (q s : Nat) : Nat → Int := fun i => m (q + 1) (1200 * s + i) % 4294967296
theorem zwd_bd (m : zM) (q s i : Nat) : 0 ≤ zwd m q s i ∧ zwd m q s i < 4294967296 := ⟨Int.emod_nonneg _ (by omega), Int.emod_lt_of_pos _ (by omega)⟩
/-- slot s holds v -/
def zsl (m : zM) (q s : Nat) (v : Int) : Prop := ∃ n : Nat, (m (q + 2) s = (n : Int) ∧ n ≤ 1200) ∧ (n ≠ 0 → zwd m q s (n - 1) ≠ 0) ∧ (v.natAbs : Int) = zsum 4294967296 (zwd m q s) n ∧ ((m (q + 3) s = 0 ∧ 0 ≤ v) ∨ (m (q + 3) s = 1 ∧ v < 0))
/-- slot x is as it was -/
def zSq (q x : Nat) (m m' : zM) : Prop := m' (q + 2) x = m (q + 2) x ∧ m' (q + 3) x = m (q + 3) x ∧ ∀ i, i < 1200 → m' (q + 1) (1200 * x + i) = m (q + 1) (1200 * x + i)
def zsP (q : Nat) (S : Nat → Prop) (m m' : zM) : Prop := (∀ a j, (a < q + 1 ∨ q + 3 < a) → m' a j = m a j) ∧ ∀ x, ¬ S x → zSq q x m m'
theorem zsP.rfl' {q : Nat} {S : Nat → Prop} {m : zM} : zsP q S m m := ⟨fun _ _ _ => rfl, fun _ _ => ⟨rfl, rfl, fun _ _ => rfl⟩⟩
theorem zSq.t {q x : Nat} {m m1 m2 : zM} (h : zSq q x m m1) (g : zSq q x m1 m2) : zSq q x m m2 := ⟨g.1.trans h.1, g.2.1.trans h.2.1, fun i hi => (g.2.2 i hi).trans (h.2.2 i hi)⟩
theorem zsP.tt {q : Nat} {S T U : Nat → Prop} {m m1 m2 : zM} (h : zsP q S m m1) (g : zsP q T m1 m2) (hS : ∀ x, S x → U x) (hT : ∀ x, T x → U x) : zsP q U m m2 := ⟨fun a j ha => (g.1 a j ha).trans (h.1 a j ha), fun x hx => (h.2 x (fun k => hx (hS x k))).t (g.2 x (fun k => hx (hT x k)))⟩
theorem zsP.t {q : Nat} {S : Nat → Prop} {m m1 m2 : zM} (h : zsP q S m m1) (g : zsP q S m1 m2) : zsP q S m m2 := h.tt g (fun _ k => k) (fun _ k => k)
theorem zsP.mono {q : Nat} {S T : Nat → Prop} {m m1 : zM} (h : zsP q S m m1) (hS : ∀ x, S x → T x) : zsP q T m m1 := ⟨h.1, fun x hx => h.2 x (fun k => hx (hS x k))⟩
theorem zsP.w1 {q s i : Nat} {S : Nat → Prop} {m m1 : zM} {v : Int} (h : zsP q S m m1) (hs : S s) (hi : i < 1200) : zsP q S m (zms m1 (q + 1) (1200 * s + i) v) := by
  refine h.t ⟨fun a j ha => zms_nq _ _ _ _ _ (by omega), fun x hx => ?_⟩
  have hne : x ≠ s := fun e => hx (e ▸ hs)
  exact ⟨zms_nq _ _ _ _ _ (by omega), zms_nq _ _ _ _ _ (by omega), fun i hi => zms_nk _ _ _ _ _ (by omega)⟩
theorem zsP.w2 {q s : Nat} {S : Nat → Prop} {m m1 : zM} {v : Int} (h : zsP q S m m1) (hs : S s) : zsP q S m (zms m1 (q + 2) s v) := by
  refine h.t ⟨fun a j ha => zms_nq _ _ _ _ _ (by omega), fun x hx => ?_⟩
  have hne : x ≠ s := fun e => hx (e ▸ hs)
  exact ⟨zms_nk _ _ _ _ _ hne, zms_nq _ _ _ _ _ (by omega), fun i hi => zms_nq _ _ _ _ _ (by omega)⟩
theorem zsP.w3 {q s : Nat} {S : Nat → Prop} {m m1 : zM} {v : Int} (h : zsP q S m m1) (hs : S s) : zsP q S m (zms m1 (q + 3) s v) := by
  refine h.t ⟨fun a j ha => zms_nq _ _ _ _ _ (by omega), fun x hx => ?_⟩
  have hne : x ≠ s := fun e => hx (e ▸ hs)
  exact ⟨zms_nq _ _ _ _ _ (by omega), zms_nk _ _ _ _ _ hne, fun i hi => zms_nq _ _ _ _ _ (by omega)⟩
theorem zSq.wd {q x i : Nat} {m m' : zM} (h : zSq q x m m') (hi : i < 1200) : zwd m' q x i = zwd m q x i := by unfold zwd; rw [h.2.2 i hi]
theorem zsl.q {q x : Nat} {m m' : zM} {v : Int} (h : zsl m q x v) (g : zSq q x m m') : zsl m' q x v := by
  obtain ⟨n, ⟨h1, h2⟩, h3, h4, h5⟩ := h
  refine ⟨n, ⟨g.1.trans h1, h2⟩, fun hn => ?_, h4.trans (zsum_congr (fun i hi => (g.wd (by omega)).symm)), by rw [g.2.1]; exact h5⟩
  rw [g.wd (by omega)]
  exact h3 hn
theorem zsl.k {q x : Nat} {S : Nat → Prop} {m m' : zM} {v : Int} (h : zsl m q x v) (g : zsP q S m m') (hx : ¬ S x) : zsl m' q x v := h.q (g.2 x hx)
theorem c_X8_in (G : zG) {A : zA} {m : zM} {v l h : Int} (hv : zi64 v) (hl : zi64 l) (hh : zi64 h) : zMet G k_X8_in [vl v, vl l, vl h] A m (zpi A (fun r m' => m = m' ∧ ((r = 1 ∧ zin v l h) ∨ (r = 0 ∧ ¬ zin v l h)))) := by
  unfold zi64 at hv hl hh
  refine zMet.of RX8 rfl (by decide +kernel) (Nat.le_of_ble_eq_true rfl) [some (vl v), none, some (vl l), none, some (vl h), none] rfl (fun E hG X hQ hNm => ?_)
  subst hG
  refine z_lload_n X dX8_in_0 rfl ?_
  refine z_lload_n X dX8_in_1 rfl ?_
  refine z_lcmp_lt X dX8_in_2 dX8_in_3 17 (by decide) (by omega) (by omega) (fun h2 => ?_) (fun h2 => ?_)
  · refine z_iconst X dX8_in_17 ?_
    refine z_zreturn (st := []) X rfl hQ dX8_in_18 (by first | exact Or.inl rfl | exact Or.inr rfl | omega) ⟨rfl, _, rfl, ?_⟩
    first | exact ⟨rfl, Or.inr ⟨rfl, fun h => by omega⟩⟩ | exact ⟨rfl, Or.inl ⟨rfl, by omega, by omega⟩⟩
  · refine z_lload_n X dX8_in_6 rfl ?_
    refine z_lload X dX8_in_7 rfl ?_
    refine z_lcmp_gt X dX8_in_9 dX8_in_10 17 (by decide) (by omega) (by omega) (fun h9 => ?_) (fun h9 => ?_)
    · refine z_iconst X dX8_in_17 ?_
      refine z_zreturn (st := []) X rfl hQ dX8_in_18 (by first | exact Or.inl rfl | exact Or.inr rfl | omega) ⟨rfl, _, rfl, ?_⟩
      first | exact ⟨rfl, Or.inr ⟨rfl, fun h => by omega⟩⟩ | exact ⟨rfl, Or.inl ⟨rfl, by omega, by omega⟩⟩
    · refine z_iconst X dX8_in_13 ?_
      refine z_goto X dX8_in_14 18 (by decide) ?_
      refine z_zreturn (st := []) X rfl hQ dX8_in_18 (by first | exact Or.inl rfl | exact Or.inr rfl | omega) ⟨rfl, _, rfl, ?_⟩
      first | exact ⟨rfl, Or.inr ⟨rfl, fun h => by omega⟩⟩ | exact ⟨rfl, Or.inl ⟨rfl, by omega, by omega⟩⟩
theorem c_X8_set (G : zG) {A : zA} {m : zM} {q s : Nat} {si v : Int} (hA : zmodA A q) (hsi : si = (s : Int)) (hs : s < 60) (hv : v = 0 ∨ v = 1) : zMet G k_X8_set [vr q, vi si, vl v] A m (zpv A (fun m' => zsl m' q s v ∧ zsP q (fun x => x = s) m m')) := by
  subst hsi
  obtain ⟨⟨hO0, f0, f1, f2, f3, f4, f5, f6, f7, f8, f9, f10, f11, f12, f16, f24, f25⟩, ⟨g1, g2, g3⟩, ⟨g4, g5, g6, g7, g8, g9⟩, ⟨g10, g11, g12, g13⟩, g14, g15, g16⟩ := id hA
  refine zMet.of RX8 rfl (by decide +kernel) (Nat.le_of_ble_eq_true rfl) [some (vr q), some (vi (s : Int)), some (vl v), none, none, none] rfl (fun E hG X hQ hNm => ?_)
  subst hG
  refine z_lload_n X dX8_set_0 rfl ?_
  refine z_lconst X dX8_set_1 0 rfl ?_
  refine z_lcmp_ge X dX8_set_2 dX8_set_3 11 (by decide) (by omega) (by omega) (fun h2 => ?_) (fun h2 => ?_)
  · refine z_lload_n X dX8_set_11 rfl ?_
    refine z_lstore X dX8_set_12 (fun y => [_, _, _, _, some (vl y), _]) (by decide) (fun _ => rfl) (fun x4_12 hx4_12 => ?_)
    subst hx4_12
    refine z_aload_n X dX8_set_14 rfl ?_
    refine z_getR X dX8_set_15 f_X8_17 rfl (by first | assumption | exact zbigA.o (by assumption)) (by assumption) ?_
    refine z_iload_n X dX8_set_18 rfl ?_
    refine z_lload_n X dX8_set_19 rfl ?_
    refine z_lconst X dX8_set_20 0 rfl ?_
    refine z_lcmp_ge X dX8_set_21 dX8_set_22 29 (by decide) (by omega) (by omega) (fun h21 => ?_) (fun h21 => ?_)
    · refine z_iconst X dX8_set_29 ?_
      refine z_bast X (s) dX8_set_30 (by omega) (by first | exact Or.inl rfl | exact Or.inr rfl | omega) (by assumption) (by omega) (by omega) ?_
      refine z_aload_n X dX8_set_31 rfl ?_
      refine z_getR X dX8_set_32 f_X8_14 rfl (by first | assumption | exact zbigA.o (by assumption)) (by assumption) ?_
      refine z_iload_n X dX8_set_35 rfl ?_
      refine z_iconst X dX8_set_36 ?_
      refine z_iast X (s) dX8_set_37 (by omega) (by assumption) (by omega) (by omega) ?_
      refine z_lload X dX8_set_38 rfl ?_
      refine z_lconst X dX8_set_40 0 rfl ?_
      refine z_lcmp_eq X dX8_set_41 dX8_set_42 85 (by decide) (by omega) (by omega) (fun h41 => ?_) (fun h41 => ?_)
      · refine z_return (st := []) X rfl hQ dX8_set_85 ⟨rfl, rfl, ?_⟩
        refine ⟨⟨0, ⟨by simp [zms], by omega⟩, fun h => absurd rfl h, by rw [zsum_0]; omega, Or.inl ⟨by simp [zms], by omega⟩⟩, (((zsP.rfl' (S := fun x => x = s)).w3 rfl).w2 rfl)⟩
      · refine z_aload_n X dX8_set_45 rfl ?_
        refine z_getR X dX8_set_46 f_X8_8 rfl (by first | assumption | exact zbigA.o (by assumption)) (by assumption) ?_
        refine z_sipush X dX8_set_49 (by decide) ?_
        refine z_iload_n X dX8_set_52 rfl ?_
        refine z_imul X dX8_set_53 ?_
        refine z_aload_n X dX8_set_54 rfl ?_
        refine z_getR X dX8_set_55 f_X8_14 rfl (by first | assumption | exact zbigA.o (by assumption)) (by assumption) ?_
        refine z_iload_n X dX8_set_58 rfl ?_
        refine z_iald X (s) dX8_set_59 (by omega) (by assumption) (by omega) (by omega) ?_
        rw [zms_same]
        refine z_iadd X dX8_set_60 ?_
        refine z_lload X dX8_set_61 rfl ?_
        refine z_l2i X dX8_set_63 ?_
        refine z_iast X (1200 * s + 0) dX8_set_64 (by omega) (by assumption) (by omega) (by omega) ?_
        refine z_aload_n X dX8_set_65 rfl ?_
        refine z_getR X dX8_set_66 f_X8_14 rfl (by first | assumption | exact zbigA.o (by assumption)) (by assumption) ?_
        refine z_iload_n X dX8_set_69 rfl ?_
        refine z_dup2 X dX8_set_70 rfl rfl ?_
        refine z_iald X (s) dX8_set_71 (by omega) (by assumption) (by omega) (by omega) ?_
        refine z_iconst X dX8_set_72 ?_
        refine z_iadd X dX8_set_73 ?_
        refine z_iast X (s) dX8_set_74 (by omega) (by assumption) (by omega) (by omega) ?_
        refine z_lload X dX8_set_75 rfl ?_
        refine z_bipush X dX8_set_77 (by decide) ?_
        refine z_lushr X dX8_set_79 32 4294967296 rfl (by decide) (by decide) (by omega) ?_
        refine z_lstore X dX8_set_80 (fun y => [_, _, _, _, some (vl y), _]) (by decide) (fun _ => rfl) (fun x4_80 hx4_80 => ?_)
        subst hx4_80
        refine z_goto X dX8_set_82 38 (by decide) ?_
        refine z_lload X dX8_set_38 rfl ?_
        refine z_lconst X dX8_set_40 0 rfl ?_
        refine z_lcmp_eq X dX8_set_41 dX8_set_42 85 (by decide) (by omega) (by omega) (fun h41 => ?_) (fun h41 => ?_)
        · refine z_return (st := []) X rfl hQ dX8_set_85 ⟨rfl, rfl, ?_⟩
          refine ⟨⟨1, ⟨by simp [zms], by omega⟩, fun _ => by simp [zwd, zms]; omega, by simp [zsum, zwd, zms]; omega, Or.inl ⟨by simp [zms], by omega⟩⟩, (((((zsP.rfl' (S := fun x => x = s)).w3 rfl).w2 rfl).w1 (i := 0) rfl (by omega)).w2 rfl)⟩
        · exact absurd (by omega) h41
    · exact absurd (by omega) h21
  · exact absurd (by omega) h2
theorem zl8_copy {E : zCx} {rm : Room} {cs : Nat × Nat} {A : zA} (X : zOK E cX8_copy RX8 4 none rm) {q a b n : Nat} (hA : zmodA A q) (ha : a < 60) (hb : b < 60) (hne : a ≠ b) {m0 : zM} (hn : m0 (q + 2) a = (n : Int)) (hn2 : n ≤ 1200) : ∀ (r i : Nat) (m : zM), i + r = n → zsP q (fun x => x = b) m0 m → (∀ j, j < i → m (q + 1) (1200 * b + j) = m0 (q + 1) (1200 * a + j)) →
    (∀ m', zsP q (fun x => x = b) m0 m' → (∀ j, j < n → m' (q + 1) (1200 * b + j) = m0 (q + 1) (1200 * a + j)) → zW E cs A m' 42 [some (vr q), some (vi (a : Int)), some (vi (b : Int)), some (vi (n : Int))] []) → zW E cs A m 2 [some (vr q), some (vi (a : Int)), some (vi (b : Int)), some (vi (i : Int))] [] := by
  obtain ⟨⟨hO0, f0, f1, f2, f3, f4, f5, f6, f7, f8, f9, f10, f11, f12, f16, f24, f25⟩, ⟨g1, g2, g3⟩, ⟨g4, g5, g6, g7, g8, g9⟩, ⟨g10, g11, g12, g13⟩, g14, g15, g16⟩ := id hA
  intro r
  induction r with
  | zero =>
    intro i m hi h1 h2 K
    obtain rfl : i = n := by omega
    have e1 := (h1.2 a hne).1.trans hn
    refine z_iload_n X dX8_copy_2 rfl ?_
    refine z_aload_n X dX8_copy_3 rfl ?_
    refine z_getR X dX8_copy_4 f_X8_14 rfl (by first | assumption | exact zbigA.o (by assumption)) (by assumption) ?_
    refine z_iload_n X dX8_copy_7 rfl ?_
    refine z_iald X (a) dX8_copy_8 (by omega) (by assumption) (by omega) (by omega) ?_
    refine z_icmp_ge X dX8_copy_9 42 (by decide) (by omega) (by omega) (fun h9 => ?_) (fun h9 => ?_)
    · exact K m h1 h2
    · exact absurd h9 (by omega)
  | succ r ih =>
    intro i m hi h1 h2 K
    have e1 := (h1.2 a hne).1.trans hn
    refine z_iload_n X dX8_copy_2 rfl ?_
    refine z_aload_n X dX8_copy_3 rfl ?_
    refine z_getR X dX8_copy_4 f_X8_14 rfl (by first | assumption | exact zbigA.o (by assumption)) (by assumption) ?_
    refine z_iload_n X dX8_copy_7 rfl ?_
    refine z_iald X (a) dX8_copy_8 (by omega) (by assumption) (by omega) (by omega) ?_
    refine z_icmp_ge X dX8_copy_9 42 (by decide) (by omega) (by omega) (fun h9 => ?_) (fun h9 => ?_)
    · exact absurd h9 (by omega)
    · refine z_aload_n X dX8_copy_12 rfl ?_
      refine z_getR X dX8_copy_13 f_X8_8 rfl (by first | assumption | exact zbigA.o (by assumption)) (by assumption) ?_
      refine z_sipush X dX8_copy_16 (by decide) ?_
      refine z_iload_n X dX8_copy_19 rfl ?_
      refine z_imul X dX8_copy_20 ?_
      refine z_iload_n X dX8_copy_21 rfl ?_
      refine z_iadd X dX8_copy_22 ?_
      refine z_aload_n X dX8_copy_23 rfl ?_
      refine z_getR X dX8_copy_24 f_X8_8 rfl (by first | assumption | exact zbigA.o (by assumption)) (by assumption) ?_
      refine z_sipush X dX8_copy_27 (by decide) ?_
      refine z_iload_n X dX8_copy_30 rfl ?_
      refine z_imul X dX8_copy_31 ?_
      refine z_iload_n X dX8_copy_32 rfl ?_
      refine z_iadd X dX8_copy_33 ?_
      refine z_iald X (1200 * a + i) dX8_copy_34 (by omega) (by assumption) (by omega) (by omega) ?_
      refine z_iast X (1200 * b + i) dX8_copy_35 (by omega) (by assumption) (by omega) (by omega) ?_
      refine z_iinc X dX8_copy_36 rfl (fun y => [_, _, _, some (vi y)]) (fun _ => rfl) (fun y hy => ?_)
      obtain rfl : y = ((i + 1 : Nat) : Int) := by omega
      refine z_goto X dX8_copy_39 2 (by decide) ?_
      refine ih (i + 1) _ (by omega) (h1.w1 (i := i) rfl (by omega)) (fun j hj => ?_) K
      by_cases hji : j = i
      · rw [hji, zms_same]; exact (h1.2 a hne).2.2 i (by omega)
      · rw [zms_nk _ _ _ _ _ (by omega)]; exact h2 j (by omega)
theorem c_X8_copy (G : zG) {A : zA} {m : zM} {q a b : Nat} {ai bi v : Int} (hA : zmodA A q) (hai : ai = (a : Int)) (hbi : bi = (b : Int)) (ha : a < 60) (hb : b < 60) (hne : a ≠ b) (hv : zsl m q a v) : zMet G k_X8_copy [vr q, vi ai, vi bi] A m (zpv A (fun m' => zsl m' q b v ∧ zsP q (fun x => x = b) m m')) := by
  subst hai hbi
  obtain ⟨⟨hO0, f0, f1, f2, f3, f4, f5, f6, f7, f8, f9, f10, f11, f12, f16, f24, f25⟩, ⟨g1, g2, g3⟩, ⟨g4, g5, g6, g7, g8, g9⟩, ⟨g10, g11, g12, g13⟩, g14, g15, g16⟩ := id hA
  obtain ⟨n, ⟨h1, h2⟩, h3, h4, h5⟩ := hv
  refine zMet.of RX8 rfl (by decide +kernel) (Nat.le_of_ble_eq_true rfl) [some (vr q), some (vi (a : Int)), some (vi (b : Int)), none] rfl (fun E hG X hQ hNm => ?_)
  subst hG
  refine z_iconst X dX8_copy_0 ?_
  refine z_istore_n X dX8_copy_1 (fun y => [_, _, _, some (vi y)]) (by decide) (fun _ => rfl) (fun x3_1 hx3_1 => ?_)
  subst hx3_1
  refine zl8_copy X hA ha hb hne h1 h2 n 0 m (by omega) zsP.rfl' (fun j hj => absurd hj (by omega)) (fun m' k1 k2 => ?_)
  have e1 := (k1.2 a hne).1.trans h1
  have e2 := (k1.2 a hne).2.1
  have e3 : zms m' (q + 2) b (n : Int) (q + 3) a = m (q + 3) a := (zms_nq _ _ _ _ _ (by omega)).trans e2
  refine z_aload_n X dX8_copy_42 rfl ?_
  refine z_getR X dX8_copy_43 f_X8_14 rfl (by first | assumption | exact zbigA.o (by assumption)) (by assumption) ?_
  refine z_iload_n X dX8_copy_46 rfl ?_
  refine z_aload_n X dX8_copy_47 rfl ?_
  refine z_getR X dX8_copy_48 f_X8_14 rfl (by first | assumption | exact zbigA.o (by assumption)) (by assumption) ?_
  refine z_iload_n X dX8_copy_51 rfl ?_
  skip
  refine z_iald X (a) dX8_copy_52 (by omega) (by assumption) (by omega) (by omega) ?_
  refine z_iast X (b) dX8_copy_53 (by omega) (by assumption) (by omega) (by omega) ?_
  refine z_aload_n X dX8_copy_54 rfl ?_
  refine z_getR X dX8_copy_55 f_X8_17 rfl (by first | assumption | exact zbigA.o (by assumption)) (by assumption) ?_
  refine z_iload_n X dX8_copy_58 rfl ?_
  refine z_aload_n X dX8_copy_59 rfl ?_
  refine z_getR X dX8_copy_60 f_X8_17 rfl (by first | assumption | exact zbigA.o (by assumption)) (by assumption) ?_
  refine z_iload_n X dX8_copy_63 rfl ?_
  refine z_bald X (a) dX8_copy_64 (by omega) (by assumption) (by omega) (by omega) ?_
  rw [show m' (q + 2) a = (n : Int) from e1, e3]
  refine z_bast X (b) dX8_copy_65 (by omega) (by first | exact Or.inl rfl | exact Or.inr rfl | omega) (by assumption) (by omega) (by omega) ?_
  refine z_return (st := []) X rfl hQ dX8_copy_66 ⟨rfl, rfl, ?_⟩
  refine ⟨⟨n, ⟨by simp [zms], h2⟩, fun hn => ?_, h4.trans (zsum_congr (fun i hi => ?_)), by rw [zms_same]; exact h5⟩, (k1.w2 rfl).w3 rfl⟩
  · simp only [zwd, zms, Nat.add_right_cancel_iff]
    simpa [zwd, k2 (n - 1) (by omega)] using h3 hn
  · simp [zwd, zms, k2 i hi]

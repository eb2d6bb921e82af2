/-! The model: times, order, trim -/
theorem zB32 (n : Nat) : (4294967296 : Int) ^ n = ((2 ^ (32 * n) : Nat) : Int) := by
  rw [Nat.pow_mul]
  exact (Int.natCast_pow _ _).symm
theorem zle.lt32 {x : Int} {e N : Nat} (h : zle x e) (he : e < 32 * N) : (x.natAbs : Int) < 4294967296 ^ N := by
  rw [zB32]
  unfold zle at h
  have := Nat.pow_lt_pow_right (a := 2) (by omega) he
  omega
theorem zpow_lt32 {n k : Nat} {x : Int} (h : (4294967296 : Int) ^ n ≤ x) (g : x < 4294967296 ^ k) : n < k := by
  rcases Nat.lt_or_ge n k with hk | hk
  · exact hk
  · have : (4294967296 : Int) ^ k ≤ 4294967296 ^ n := zpow_le (by omega) hk
    omega
/-- an int of any size against 0 -/
theorem z_if_ne32 {E : zCx} {cc : ByteArray} {own : String} {nL : Nat} {ret : Option FieldType} {rm : Room} {cs : Nat × Nat} {A : zA} {m : zM} {pc : Nat} {lv : zLv} {st : List Value} {a : Int} {off : Int} (X : zOK E cc own nL ret rm) (hd : decode cc pc = .ok (.ifCond .ne off, 3)) (tgt : Nat) (ht : (pc : Int) + off = (tgt : Int)) (k1 : ¬ a % 4294967296 = 0 → zW E cs A m tgt lv (st)) (k2 : ¬ (¬ a % 4294967296 = 0) → zW E cs A m (pc + 3) lv (st)) : zW E cs A m pc lv (vi a :: st) := by
  have e : vi a = vi (Int.bmod a 4294967296) := by
    unfold vi
    rw [zI_mod a (Int.bmod a 4294967296) (by rw [show (4294967296 : Int) = ((4294967296 : Nat) : Int) from rfl, Int.bmod_emod])]
  have b1 := Int.le_bmod (x := a) (m := 4294967296) (by omega)
  have b2 := Int.bmod_lt (x := a) (m := 4294967296) (by omega)
  have b3 : Int.bmod a 4294967296 % 4294967296 = a % 4294967296 := by rw [show (4294967296 : Int) = ((4294967296 : Nat) : Int) from rfl, Int.bmod_emod]
  rw [e]
  exact z_if_ne X hd tgt ht (by omega) (fun h => k1 (by omega)) (fun h => k2 (by omega))
theorem zl8_times {E : zCx} {rm : Room} {cs : Nat × Nat} {A : zA} (X : zOK E cX8_times RX8 8 none rm) {q s n : Nat} (hA : zmodA A q) (hs : s < 60) {m0 : zM} {bv by' : Int} (hn : m0 (q + 2) s = (n : Int)) (hn2 : n ≤ 1200) (hby : 0 ≤ by' ∧ by' ≤ 2147483648) : ∀ (r i : Nat) (m : zM) (c : Int), i + r = n → zsP q (fun x => x = s) m0 m → m (q + 2) s = (n : Int) → m (q + 3) s = m0 (q + 3) s → (∀ j, i ≤ j → j < 1200 → m (q + 1) (1200 * s + j) = m0 (q + 1) (1200 * s + j)) → 0 ≤ c → c ≤ by' → zsum 4294967296 (zwd m q s) i + c * 4294967296 ^ i = zsum 4294967296 (zwd m0 q s) i * by' →
    (∀ (m' : zM) (c : Int), zsP q (fun x => x = s) m0 m' → m' (q + 2) s = (n : Int) → m' (q + 3) s = m0 (q + 3) s → 0 ≤ c → c ≤ by' → zsum 4294967296 (zwd m' q s) n + c * 4294967296 ^ n = zsum 4294967296 (zwd m0 q s) n * by' → zW E cs A m' 82 [some (vr q), some (vi (s : Int)), some (vi bv), some (vl by'), none, some (vl c), none, some (vi ((1200 * s + n : Nat) : Int))] []) → zW E cs A m 23 [some (vr q), some (vi (s : Int)), some (vi bv), some (vl by'), none, some (vl c), none, some (vi ((1200 * s + i : Nat) : Int))] [] := by
  obtain ⟨⟨hO0, f0, f1, f2, f3, f4, f5, f6, f7, f8, f9, f10, f11, f12, f16, f24, f25⟩, ⟨g1, g2, g3⟩, ⟨g4, g5, g6, g7, g8, g9⟩, ⟨g10, g11, g12, g13⟩, g14, g15, g16⟩ := id hA
  intro r
  induction r with
  | zero =>
    intro i m c hi h1 e1 e2 h3 hc0 hc1 hsum K
    obtain rfl : i = n := by omega
    refine z_iload X dX8_times_23 rfl ?_
    refine z_sipush X dX8_times_25 (by decide) ?_
    refine z_iload_n X dX8_times_28 rfl ?_
    refine z_imul X dX8_times_29 ?_
    refine z_aload_n X dX8_times_30 rfl ?_
    refine z_getR X dX8_times_31 f_X8_14 rfl (by first | assumption | exact zbigA.o (by assumption)) (by assumption) ?_
    refine z_iload_n X dX8_times_34 rfl ?_
    refine z_iald X (s) dX8_times_35 (by omega) (by assumption) (by omega) (by omega) ?_
    refine z_iadd X dX8_times_36 ?_
    refine z_icmp_ge X dX8_times_37 82 (by decide) (by omega) (by omega) (fun h37 => ?_) (fun h37 => ?_)
    · exact K m c h1 e1 e2 hc0 hc1 hsum
    · exact absurd h37 (by omega)
  | succ r ih =>
    intro i m c hi h1 e1 e2 h3 hc0 hc1 hsum K
    have hw := zwd_bd m0 q s i
    have e3 : m (q + 1) (1200 * s + i) % 4294967296 = zwd m0 q s i := by rw [h3 i (by omega) (by omega)]; rfl
    have hp1 : 0 ≤ zwd m0 q s i * by' := Int.mul_nonneg hw.1 hby.1
    have hp2 : zwd m0 q s i * by' ≤ 4294967295 * by' := Int.mul_le_mul_of_nonneg_right (by omega) hby.1
    refine z_iload X dX8_times_23 rfl ?_
    refine z_sipush X dX8_times_25 (by decide) ?_
    refine z_iload_n X dX8_times_28 rfl ?_
    refine z_imul X dX8_times_29 ?_
    refine z_aload_n X dX8_times_30 rfl ?_
    refine z_getR X dX8_times_31 f_X8_14 rfl (by first | assumption | exact zbigA.o (by assumption)) (by assumption) ?_
    refine z_iload_n X dX8_times_34 rfl ?_
    refine z_iald X (s) dX8_times_35 (by omega) (by assumption) (by omega) (by omega) ?_
    refine z_iadd X dX8_times_36 ?_
    refine z_icmp_ge X dX8_times_37 82 (by decide) (by omega) (by omega) (fun h37 => ?_) (fun h37 => ?_)
    · exact absurd h37 (by omega)
    · refine z_lload X dX8_times_40 rfl ?_
      refine z_aload_n X dX8_times_42 rfl ?_
      refine z_getR X dX8_times_43 f_X8_8 rfl (by first | assumption | exact zbigA.o (by assumption)) (by assumption) ?_
      refine z_iload X dX8_times_46 rfl ?_
      refine z_iald X (1200 * s + i) dX8_times_48 (by omega) (by assumption) (by omega) (by omega) ?_
      refine z_i2lm X dX8_times_49 dX8_times_50 q_X8_64 dX8_times_53 ?_
      rw [e3]
      refine z_lload_n X dX8_times_54 rfl ?_
      refine z_lmul X dX8_times_55 ?_
      refine z_ladd X dX8_times_56 ?_
      refine z_lstore X dX8_times_57 (fun y => [_, _, _, _, _, some (vl y), _, _]) (by decide) (fun _ => rfl) (fun x hx => ?_)
      refine z_aload_n X dX8_times_59 rfl ?_
      refine z_getR X dX8_times_60 f_X8_8 rfl (by first | assumption | exact zbigA.o (by assumption)) (by assumption) ?_
      refine z_iload X dX8_times_63 rfl ?_
      refine z_lload X dX8_times_65 rfl ?_
      refine z_l2i X dX8_times_67 ?_
      refine z_iast X (1200 * s + i) dX8_times_68 (by omega) (by assumption) (by omega) (by omega) ?_
      refine z_lload X dX8_times_69 rfl ?_
      refine z_bipush X dX8_times_71 (by decide) ?_
      refine z_lushr X dX8_times_73 32 4294967296 rfl (by decide) (by decide) (by omega) ?_
      refine z_lstore X dX8_times_74 (fun y => [_, _, _, _, _, some (vl y), _, _]) (by decide) (fun _ => rfl) (fun c2 hc2 => ?_)
      refine z_iinc X dX8_times_76 rfl (fun y => [_, _, _, _, _, _, _, some (vi y)]) (fun _ => rfl) (fun y hy => ?_)
      obtain rfl : y = ((1200 * s + (i + 1) : Nat) : Int) := by omega
      refine z_goto X dX8_times_79 23 (by decide) ?_
      have e7 : zsum 4294967296 (zwd (zms m (q + 1) (1200 * s + i) x) q s) i = zsum 4294967296 (zwd m q s) i := zsum_congr (fun j hj => by unfold zwd; rw [zms_nk _ _ _ _ _ (by omega)])
      refine ih (i + 1) _ c2 (by omega) (h1.w1 (i := i) rfl (by omega)) (by rw [zms_nq _ _ _ _ _ (by omega)]; exact e1) (by rw [zms_nq _ _ _ _ _ (by omega)]; exact e2) (fun j hj hj2 => by rw [zms_nk _ _ _ _ _ (by omega)]; exact h3 j (by omega) hj2) (by omega) (by omega) ?_ K
      rw [zsum_s, zsum_s, e7, Int.pow_succ, show zwd (zms m (q + 1) (1200 * s + i) x) q s i = x % 4294967296 by unfold zwd; rw [zms_same]]
      exact zstep_mul hsum (by omega)
theorem zt8_times119 {E : zCx} (X : zOK E cX8_times RX8 8 none k_X8_times.2.2.2.2) {A : zA} {m m1 : zM} {q s n : Nat} {v f w x y z : Int} {P : zM → Prop} (hQ : zRet E (zpv A P) 0 0) (hA : zmodA A q) (hs : s < 60) (hf : -2147483648 ≤ f ∧ f < 2147483648) (hw : w = v * f) (hF : zsP q (fun x => x = s) m m1) (hn : m1 (q + 2) s = (n : Int)) (hn2 : n ≤ 1200) (hsg : (m1 (q + 3) s = 0 ∧ 0 ≤ v) ∨ (m1 (q + 3) s = 1 ∧ v < 0)) (ht : f ≠ 0 → n ≠ 0 → zwd m1 q s (n - 1) ≠ 0) (hv : f ≠ 0 → (w.natAbs : Int) = zsum 4294967296 (zwd m1 q s) n) (hP : ∀ m', zsl m' q s w → zsP q (fun x => x = s) m m' → P m') :
    zW E (0, 0) A m1 119 [some (vr q), some (vi (s : Int)), some (vi f), some (vl x), none, some (vl y), none, some (vi z)] [] := by
  obtain ⟨⟨hO0, f0, f1, f2, f3, f4, f5, f6, f7, f8, f9, f10, f11, f12, f16, f24, f25⟩, ⟨g1, g2, g3⟩, ⟨g4, g5, g6, g7, g8, g9⟩, ⟨g10, g11, g12, g13⟩, g14, g15, g16⟩ := id hA
  have p1 : 0 ≤ v → 0 ≤ f → 0 ≤ w := fun a b => by rw [hw]; exact Int.mul_nonneg a b
  have p2 : v < 0 → f < 0 → 0 ≤ w := fun a b => by rw [hw]; exact Int.le_of_lt (Int.mul_pos_of_neg_of_neg a b)
  have p3 : v < 0 → 0 ≤ f → w ≤ 0 := fun a b => by rw [hw]; exact Int.mul_nonpos_of_nonpos_of_nonneg (by omega) b
  have p4 : 0 ≤ v → f < 0 → w ≤ 0 := fun a b => by rw [hw]; exact Int.mul_nonpos_of_nonneg_of_nonpos a (by omega)
  have p5 : f ≠ 0 → (n = 0 ↔ w = 0) := fun h0 => by
    have := hv h0
    constructor
    · intro hn0
      rw [hn0, zsum_0] at this
      omega
    · intro hw0
      rcases Nat.eq_zero_or_pos n with h | h
      · exact h
      · obtain ⟨d, rfl⟩ : ∃ d, n = d + 1 := ⟨n - 1, by omega⟩
        have g1 := zsum_top (b := 4294967296) (n := d) (by omega) (fun i _ => (zwd_bd m1 q s i).1) (ht h0 (by omega))
        have g2 := zpow_pos (b := 4294967296) (by omega) d
        omega
  have p6 : f = 0 → w = 0 := fun h => by rw [hw, h, Int.mul_zero]
  have k1 : ∀ a b : Int, zms (zms m1 (q + 3) s a) (q + 3) s b (q + 2) s = (n : Int) := fun a b => by rw [zms_nq _ _ _ _ _ (by omega), zms_nq _ _ _ _ _ (by omega), hn]
  have fin1 : ∀ a b : Int, f ≠ 0 → ((b = 0 ∧ 0 ≤ w) ∨ (b = 1 ∧ w < 0)) → P (zms (zms m1 (q + 3) s a) (q + 3) s b) := fun a b h0 hb => by
    have e4 : ∀ i, zwd (zms (zms m1 (q + 3) s a) (q + 3) s b) q s i = zwd m1 q s i := fun i => by unfold zwd; rw [zms_nq _ _ _ _ _ (by omega), zms_nq _ _ _ _ _ (by omega)]
    refine hP _ ⟨n, ⟨k1 a b, hn2⟩, fun h => by rw [e4]; exact ht h0 h, (hv h0).trans (zsum_congr (fun i _ => (e4 i).symm)), by rw [zms_same]; exact hb⟩ ((hF.w3 rfl).w3 rfl)
  have fin0 : ∀ a b : Int, f = 0 → b = 0 → P (zms (zms (zms m1 (q + 3) s a) (q + 2) s 0) (q + 3) s b) := fun a b h0 hb => by
    have hw0 := p6 h0
    refine hP _ ⟨0, ⟨by rw [zms_nq _ _ _ _ _ (by omega), zms_same]; rfl, by omega⟩, fun h => absurd rfl h, by rw [hw0, zsum_0]; rfl, by rw [zms_same]; omega⟩ (((hF.w3 rfl).w2 rfl).w3 rfl)
  refine z_aload_n X dX8_times_119 rfl ?_
  refine z_getR X dX8_times_120 f_X8_17 rfl (by first | assumption | exact zbigA.o (by assumption)) (by assumption) ?_
  refine z_iload_n X dX8_times_123 rfl ?_
  refine z_aload_n X dX8_times_124 rfl ?_
  refine z_getR X dX8_times_125 f_X8_17 rfl (by first | assumption | exact zbigA.o (by assumption)) (by assumption) ?_
  refine z_iload_n X dX8_times_128 rfl ?_
  refine z_bald X (s) dX8_times_129 (by omega) (by assumption) (by omega) (by omega) ?_
  refine z_iload_n X dX8_times_130 rfl ?_
  refine z_if_ge X dX8_times_131 138 (by decide) (by omega) (fun h131 => ?_) (fun h131 => ?_)
  · refine z_iconst X dX8_times_138 ?_
    refine z_icmp_eq X dX8_times_139 146 (by decide) (by omega) (by omega) (fun h139 => ?_) (fun h139 => ?_)
    · refine z_iconst X dX8_times_146 ?_
      refine z_bast X (s) dX8_times_147 (by omega) (by first | exact Or.inl rfl | exact Or.inr rfl | omega) (by assumption) (by omega) (by omega) ?_
      refine z_iload_n X dX8_times_148 rfl ?_
      refine z_if_ne X dX8_times_149 159 (by decide) (by omega) (fun h149 => ?_) (fun h149 => ?_)
      · refine z_aload_n X dX8_times_159 rfl ?_
        refine z_getR X dX8_times_160 f_X8_17 rfl (by first | assumption | exact zbigA.o (by assumption)) (by assumption) ?_
        refine z_iload_n X dX8_times_163 rfl ?_
        refine z_aload_n X dX8_times_164 rfl ?_
        refine z_getR X dX8_times_165 f_X8_17 rfl (by first | assumption | exact zbigA.o (by assumption)) (by assumption) ?_
        refine z_iload_n X dX8_times_168 rfl ?_
        refine z_bald X (s) dX8_times_169 (by omega) (by assumption) (by omega) (by omega) ?_
        first | rw [zms_same] | rw [zms_nq _ _ _ _ _ (by omega), zms_same]
        refine z_if_eq X dX8_times_170 186 (by decide) (by omega) (fun h170 => ?_) (fun h170 => ?_)
        · refine z_iconst X dX8_times_186 ?_
          refine z_bast X (s) dX8_times_187 (by omega) (by first | exact Or.inl rfl | exact Or.inr rfl | omega) (by assumption) (by omega) (by omega) ?_
          refine z_return (st := []) X rfl hQ dX8_times_188 ⟨rfl, rfl, ?_⟩
          first
            | (exfalso; omega)
            | exact fin1 _ _ (by omega) (by omega)
            | exact fin0 _ _ (by omega) (by omega)
        · refine z_aload_n X dX8_times_173 rfl ?_
          refine z_getR X dX8_times_174 f_X8_14 rfl (by first | assumption | exact zbigA.o (by assumption)) (by assumption) ?_
          refine z_iload_n X dX8_times_177 rfl ?_
          refine z_iald X (s) dX8_times_178 (by omega) (by assumption) (by omega) (by omega) ?_
          first | rw [zms_same] | rw [zms_nq _ _ _ _ _ (by omega), hn]
          refine z_if_le X dX8_times_179 186 (by decide) (by omega) (fun h179 => ?_) (fun h179 => ?_)
          · refine z_iconst X dX8_times_186 ?_
            refine z_bast X (s) dX8_times_187 (by omega) (by first | exact Or.inl rfl | exact Or.inr rfl | omega) (by assumption) (by omega) (by omega) ?_
            refine z_return (st := []) X rfl hQ dX8_times_188 ⟨rfl, rfl, ?_⟩
            first
              | (exfalso; omega)
              | exact fin1 _ _ (by omega) (by omega)
              | exact fin0 _ _ (by omega) (by omega)
          · refine z_iconst X dX8_times_182 ?_
            refine z_goto X dX8_times_183 187 (by decide) ?_
            refine z_bast X (s) dX8_times_187 (by omega) (by first | exact Or.inl rfl | exact Or.inr rfl | omega) (by assumption) (by omega) (by omega) ?_
            refine z_return (st := []) X rfl hQ dX8_times_188 ⟨rfl, rfl, ?_⟩
            first
              | (exfalso; omega)
              | exact fin1 _ _ (by omega) (by omega)
              | exact fin0 _ _ (by omega) (by omega)
      · refine z_aload_n X dX8_times_152 rfl ?_
        refine z_getR X dX8_times_153 f_X8_14 rfl (by first | assumption | exact zbigA.o (by assumption)) (by assumption) ?_
        refine z_iload_n X dX8_times_156 rfl ?_
        refine z_iconst X dX8_times_157 ?_
        refine z_iast X (s) dX8_times_158 (by omega) (by assumption) (by omega) (by omega) ?_
        refine z_aload_n X dX8_times_159 rfl ?_
        refine z_getR X dX8_times_160 f_X8_17 rfl (by first | assumption | exact zbigA.o (by assumption)) (by assumption) ?_
        refine z_iload_n X dX8_times_163 rfl ?_
        refine z_aload_n X dX8_times_164 rfl ?_
        refine z_getR X dX8_times_165 f_X8_17 rfl (by first | assumption | exact zbigA.o (by assumption)) (by assumption) ?_
        refine z_iload_n X dX8_times_168 rfl ?_
        refine z_bald X (s) dX8_times_169 (by omega) (by assumption) (by omega) (by omega) ?_
        first | rw [zms_same] | rw [zms_nq _ _ _ _ _ (by omega), zms_same]
        refine z_if_eq X dX8_times_170 186 (by decide) (by omega) (fun h170 => ?_) (fun h170 => ?_)
        · refine z_iconst X dX8_times_186 ?_
          refine z_bast X (s) dX8_times_187 (by omega) (by first | exact Or.inl rfl | exact Or.inr rfl | omega) (by assumption) (by omega) (by omega) ?_
          refine z_return (st := []) X rfl hQ dX8_times_188 ⟨rfl, rfl, ?_⟩
          first
            | (exfalso; omega)
            | exact fin1 _ _ (by omega) (by omega)
            | exact fin0 _ _ (by omega) (by omega)
        · refine z_aload_n X dX8_times_173 rfl ?_
          refine z_getR X dX8_times_174 f_X8_14 rfl (by first | assumption | exact zbigA.o (by assumption)) (by assumption) ?_
          refine z_iload_n X dX8_times_177 rfl ?_
          refine z_iald X (s) dX8_times_178 (by omega) (by assumption) (by omega) (by omega) ?_
          first | rw [zms_same] | rw [zms_nq _ _ _ _ _ (by omega), hn]
          refine z_if_le X dX8_times_179 186 (by decide) (by omega) (fun h179 => ?_) (fun h179 => ?_)
          · refine z_iconst X dX8_times_186 ?_
            refine z_bast X (s) dX8_times_187 (by omega) (by first | exact Or.inl rfl | exact Or.inr rfl | omega) (by assumption) (by omega) (by omega) ?_
            refine z_return (st := []) X rfl hQ dX8_times_188 ⟨rfl, rfl, ?_⟩
            first
              | (exfalso; omega)
              | exact fin1 _ _ (by omega) (by omega)
              | exact fin0 _ _ (by omega) (by omega)
          · refine z_iconst X dX8_times_182 ?_
            refine z_goto X dX8_times_183 187 (by decide) ?_
            refine z_bast X (s) dX8_times_187 (by omega) (by first | exact Or.inl rfl | exact Or.inr rfl | omega) (by assumption) (by omega) (by omega) ?_
            refine z_return (st := []) X rfl hQ dX8_times_188 ⟨rfl, rfl, ?_⟩
            first
              | (exfalso; omega)
              | exact fin1 _ _ (by omega) (by omega)
              | exact fin0 _ _ (by omega) (by omega)
    · refine z_iconst X dX8_times_142 ?_
      refine z_goto X dX8_times_143 147 (by decide) ?_
      refine z_bast X (s) dX8_times_147 (by omega) (by first | exact Or.inl rfl | exact Or.inr rfl | omega) (by assumption) (by omega) (by omega) ?_
      refine z_iload_n X dX8_times_148 rfl ?_
      refine z_if_ne X dX8_times_149 159 (by decide) (by omega) (fun h149 => ?_) (fun h149 => ?_)
      · refine z_aload_n X dX8_times_159 rfl ?_
        refine z_getR X dX8_times_160 f_X8_17 rfl (by first | assumption | exact zbigA.o (by assumption)) (by assumption) ?_
        refine z_iload_n X dX8_times_163 rfl ?_
        refine z_aload_n X dX8_times_164 rfl ?_
        refine z_getR X dX8_times_165 f_X8_17 rfl (by first | assumption | exact zbigA.o (by assumption)) (by assumption) ?_
        refine z_iload_n X dX8_times_168 rfl ?_
        refine z_bald X (s) dX8_times_169 (by omega) (by assumption) (by omega) (by omega) ?_
        first | rw [zms_same] | rw [zms_nq _ _ _ _ _ (by omega), zms_same]
        refine z_if_eq X dX8_times_170 186 (by decide) (by omega) (fun h170 => ?_) (fun h170 => ?_)
        · refine z_iconst X dX8_times_186 ?_
          refine z_bast X (s) dX8_times_187 (by omega) (by first | exact Or.inl rfl | exact Or.inr rfl | omega) (by assumption) (by omega) (by omega) ?_
          refine z_return (st := []) X rfl hQ dX8_times_188 ⟨rfl, rfl, ?_⟩
          first
            | (exfalso; omega)
            | exact fin1 _ _ (by omega) (by omega)
            | exact fin0 _ _ (by omega) (by omega)
        · refine z_aload_n X dX8_times_173 rfl ?_
          refine z_getR X dX8_times_174 f_X8_14 rfl (by first | assumption | exact zbigA.o (by assumption)) (by assumption) ?_
          refine z_iload_n X dX8_times_177 rfl ?_
          refine z_iald X (s) dX8_times_178 (by omega) (by assumption) (by omega) (by omega) ?_
          first | rw [zms_same] | rw [zms_nq _ _ _ _ _ (by omega), hn]
          refine z_if_le X dX8_times_179 186 (by decide) (by omega) (fun h179 => ?_) (fun h179 => ?_)
          · refine z_iconst X dX8_times_186 ?_
            refine z_bast X (s) dX8_times_187 (by omega) (by first | exact Or.inl rfl | exact Or.inr rfl | omega) (by assumption) (by omega) (by omega) ?_
            refine z_return (st := []) X rfl hQ dX8_times_188 ⟨rfl, rfl, ?_⟩
            first
              | (exfalso; omega)
              | exact fin1 _ _ (by omega) (by omega)
              | exact fin0 _ _ (by omega) (by omega)
          · refine z_iconst X dX8_times_182 ?_
            refine z_goto X dX8_times_183 187 (by decide) ?_
            refine z_bast X (s) dX8_times_187 (by omega) (by first | exact Or.inl rfl | exact Or.inr rfl | omega) (by assumption) (by omega) (by omega) ?_
            refine z_return (st := []) X rfl hQ dX8_times_188 ⟨rfl, rfl, ?_⟩
            first
              | (exfalso; omega)
              | exact fin1 _ _ (by omega) (by omega)
              | exact fin0 _ _ (by omega) (by omega)
      · refine z_aload_n X dX8_times_152 rfl ?_
        refine z_getR X dX8_times_153 f_X8_14 rfl (by first | assumption | exact zbigA.o (by assumption)) (by assumption) ?_
        refine z_iload_n X dX8_times_156 rfl ?_
        refine z_iconst X dX8_times_157 ?_
        refine z_iast X (s) dX8_times_158 (by omega) (by assumption) (by omega) (by omega) ?_
        refine z_aload_n X dX8_times_159 rfl ?_
        refine z_getR X dX8_times_160 f_X8_17 rfl (by first | assumption | exact zbigA.o (by assumption)) (by assumption) ?_
        refine z_iload_n X dX8_times_163 rfl ?_
        refine z_aload_n X dX8_times_164 rfl ?_
        refine z_getR X dX8_times_165 f_X8_17 rfl (by first | assumption | exact zbigA.o (by assumption)) (by assumption) ?_
        refine z_iload_n X dX8_times_168 rfl ?_
        refine z_bald X (s) dX8_times_169 (by omega) (by assumption) (by omega) (by omega) ?_
        first | rw [zms_same] | rw [zms_nq _ _ _ _ _ (by omega), zms_same]
        refine z_if_eq X dX8_times_170 186 (by decide) (by omega) (fun h170 => ?_) (fun h170 => ?_)
        · refine z_iconst X dX8_times_186 ?_
          refine z_bast X (s) dX8_times_187 (by omega) (by first | exact Or.inl rfl | exact Or.inr rfl | omega) (by assumption) (by omega) (by omega) ?_
          refine z_return (st := []) X rfl hQ dX8_times_188 ⟨rfl, rfl, ?_⟩
          first
            | (exfalso; omega)
            | exact fin1 _ _ (by omega) (by omega)
            | exact fin0 _ _ (by omega) (by omega)
        · refine z_aload_n X dX8_times_173 rfl ?_
          refine z_getR X dX8_times_174 f_X8_14 rfl (by first | assumption | exact zbigA.o (by assumption)) (by assumption) ?_
          refine z_iload_n X dX8_times_177 rfl ?_
          refine z_iald X (s) dX8_times_178 (by omega) (by assumption) (by omega) (by omega) ?_
          first | rw [zms_same] | rw [zms_nq _ _ _ _ _ (by omega), hn]
          refine z_if_le X dX8_times_179 186 (by decide) (by omega) (fun h179 => ?_) (fun h179 => ?_)
          · refine z_iconst X dX8_times_186 ?_
            refine z_bast X (s) dX8_times_187 (by omega) (by first | exact Or.inl rfl | exact Or.inr rfl | omega) (by assumption) (by omega) (by omega) ?_
            refine z_return (st := []) X rfl hQ dX8_times_188 ⟨rfl, rfl, ?_⟩
            first
              | (exfalso; omega)
              | exact fin1 _ _ (by omega) (by omega)
              | exact fin0 _ _ (by omega) (by omega)
          · refine z_iconst X dX8_times_182 ?_
            refine z_goto X dX8_times_183 187 (by decide) ?_
            refine z_bast X (s) dX8_times_187 (by omega) (by first | exact Or.inl rfl | exact Or.inr rfl | omega) (by assumption) (by omega) (by omega) ?_
            refine z_return (st := []) X rfl hQ dX8_times_188 ⟨rfl, rfl, ?_⟩
            first
              | (exfalso; omega)
              | exact fin1 _ _ (by omega) (by omega)
              | exact fin0 _ _ (by omega) (by omega)
  · refine z_iconst X dX8_times_134 ?_
    refine z_goto X dX8_times_135 139 (by decide) ?_
    refine z_icmp_eq X dX8_times_139 146 (by decide) (by omega) (by omega) (fun h139 => ?_) (fun h139 => ?_)
    · refine z_iconst X dX8_times_146 ?_
      refine z_bast X (s) dX8_times_147 (by omega) (by first | exact Or.inl rfl | exact Or.inr rfl | omega) (by assumption) (by omega) (by omega) ?_
      refine z_iload_n X dX8_times_148 rfl ?_
      refine z_if_ne X dX8_times_149 159 (by decide) (by omega) (fun h149 => ?_) (fun h149 => ?_)
      · refine z_aload_n X dX8_times_159 rfl ?_
        refine z_getR X dX8_times_160 f_X8_17 rfl (by first | assumption | exact zbigA.o (by assumption)) (by assumption) ?_
        refine z_iload_n X dX8_times_163 rfl ?_
        refine z_aload_n X dX8_times_164 rfl ?_
        refine z_getR X dX8_times_165 f_X8_17 rfl (by first | assumption | exact zbigA.o (by assumption)) (by assumption) ?_
        refine z_iload_n X dX8_times_168 rfl ?_
        refine z_bald X (s) dX8_times_169 (by omega) (by assumption) (by omega) (by omega) ?_
        first | rw [zms_same] | rw [zms_nq _ _ _ _ _ (by omega), zms_same]
        refine z_if_eq X dX8_times_170 186 (by decide) (by omega) (fun h170 => ?_) (fun h170 => ?_)
        · refine z_iconst X dX8_times_186 ?_
          refine z_bast X (s) dX8_times_187 (by omega) (by first | exact Or.inl rfl | exact Or.inr rfl | omega) (by assumption) (by omega) (by omega) ?_
          refine z_return (st := []) X rfl hQ dX8_times_188 ⟨rfl, rfl, ?_⟩
          first
            | (exfalso; omega)
            | exact fin1 _ _ (by omega) (by omega)
            | exact fin0 _ _ (by omega) (by omega)
        · refine z_aload_n X dX8_times_173 rfl ?_
          refine z_getR X dX8_times_174 f_X8_14 rfl (by first | assumption | exact zbigA.o (by assumption)) (by assumption) ?_
          refine z_iload_n X dX8_times_177 rfl ?_
          refine z_iald X (s) dX8_times_178 (by omega) (by assumption) (by omega) (by omega) ?_
          first | rw [zms_same] | rw [zms_nq _ _ _ _ _ (by omega), hn]
          refine z_if_le X dX8_times_179 186 (by decide) (by omega) (fun h179 => ?_) (fun h179 => ?_)
          · refine z_iconst X dX8_times_186 ?_
            refine z_bast X (s) dX8_times_187 (by omega) (by first | exact Or.inl rfl | exact Or.inr rfl | omega) (by assumption) (by omega) (by omega) ?_
            refine z_return (st := []) X rfl hQ dX8_times_188 ⟨rfl, rfl, ?_⟩
            first
              | (exfalso; omega)
              | exact fin1 _ _ (by omega) (by omega)
              | exact fin0 _ _ (by omega) (by omega)
          · refine z_iconst X dX8_times_182 ?_
            refine z_goto X dX8_times_183 187 (by decide) ?_
            refine z_bast X (s) dX8_times_187 (by omega) (by first | exact Or.inl rfl | exact Or.inr rfl | omega) (by assumption) (by omega) (by omega) ?_
            refine z_return (st := []) X rfl hQ dX8_times_188 ⟨rfl, rfl, ?_⟩
            first
              | (exfalso; omega)
              | exact fin1 _ _ (by omega) (by omega)
              | exact fin0 _ _ (by omega) (by omega)
      · refine z_aload_n X dX8_times_152 rfl ?_
        refine z_getR X dX8_times_153 f_X8_14 rfl (by first | assumption | exact zbigA.o (by assumption)) (by assumption) ?_
        refine z_iload_n X dX8_times_156 rfl ?_
        refine z_iconst X dX8_times_157 ?_
        refine z_iast X (s) dX8_times_158 (by omega) (by assumption) (by omega) (by omega) ?_
        refine z_aload_n X dX8_times_159 rfl ?_
        refine z_getR X dX8_times_160 f_X8_17 rfl (by first | assumption | exact zbigA.o (by assumption)) (by assumption) ?_
        refine z_iload_n X dX8_times_163 rfl ?_
        refine z_aload_n X dX8_times_164 rfl ?_
        refine z_getR X dX8_times_165 f_X8_17 rfl (by first | assumption | exact zbigA.o (by assumption)) (by assumption) ?_
        refine z_iload_n X dX8_times_168 rfl ?_
        refine z_bald X (s) dX8_times_169 (by omega) (by assumption) (by omega) (by omega) ?_
        first | rw [zms_same] | rw [zms_nq _ _ _ _ _ (by omega), zms_same]
        refine z_if_eq X dX8_times_170 186 (by decide) (by omega) (fun h170 => ?_) (fun h170 => ?_)
        · refine z_iconst X dX8_times_186 ?_
          refine z_bast X (s) dX8_times_187 (by omega) (by first | exact Or.inl rfl | exact Or.inr rfl | omega) (by assumption) (by omega) (by omega) ?_
          refine z_return (st := []) X rfl hQ dX8_times_188 ⟨rfl, rfl, ?_⟩
          first
            | (exfalso; omega)
            | exact fin1 _ _ (by omega) (by omega)
            | exact fin0 _ _ (by omega) (by omega)
        · refine z_aload_n X dX8_times_173 rfl ?_
          refine z_getR X dX8_times_174 f_X8_14 rfl (by first | assumption | exact zbigA.o (by assumption)) (by assumption) ?_
          refine z_iload_n X dX8_times_177 rfl ?_
          refine z_iald X (s) dX8_times_178 (by omega) (by assumption) (by omega) (by omega) ?_
          first | rw [zms_same] | rw [zms_nq _ _ _ _ _ (by omega), hn]
          refine z_if_le X dX8_times_179 186 (by decide) (by omega) (fun h179 => ?_) (fun h179 => ?_)
          · refine z_iconst X dX8_times_186 ?_
            refine z_bast X (s) dX8_times_187 (by omega) (by first | exact Or.inl rfl | exact Or.inr rfl | omega) (by assumption) (by omega) (by omega) ?_
            refine z_return (st := []) X rfl hQ dX8_times_188 ⟨rfl, rfl, ?_⟩
            first
              | (exfalso; omega)
              | exact fin1 _ _ (by omega) (by omega)
              | exact fin0 _ _ (by omega) (by omega)
          · refine z_iconst X dX8_times_182 ?_
            refine z_goto X dX8_times_183 187 (by decide) ?_
            refine z_bast X (s) dX8_times_187 (by omega) (by first | exact Or.inl rfl | exact Or.inr rfl | omega) (by assumption) (by omega) (by omega) ?_
            refine z_return (st := []) X rfl hQ dX8_times_188 ⟨rfl, rfl, ?_⟩
            first
              | (exfalso; omega)
              | exact fin1 _ _ (by omega) (by omega)
              | exact fin0 _ _ (by omega) (by omega)
    · refine z_iconst X dX8_times_142 ?_
      refine z_goto X dX8_times_143 147 (by decide) ?_
      refine z_bast X (s) dX8_times_147 (by omega) (by first | exact Or.inl rfl | exact Or.inr rfl | omega) (by assumption) (by omega) (by omega) ?_
      refine z_iload_n X dX8_times_148 rfl ?_
      refine z_if_ne X dX8_times_149 159 (by decide) (by omega) (fun h149 => ?_) (fun h149 => ?_)
      · refine z_aload_n X dX8_times_159 rfl ?_
        refine z_getR X dX8_times_160 f_X8_17 rfl (by first | assumption | exact zbigA.o (by assumption)) (by assumption) ?_
        refine z_iload_n X dX8_times_163 rfl ?_
        refine z_aload_n X dX8_times_164 rfl ?_
        refine z_getR X dX8_times_165 f_X8_17 rfl (by first | assumption | exact zbigA.o (by assumption)) (by assumption) ?_
        refine z_iload_n X dX8_times_168 rfl ?_
        refine z_bald X (s) dX8_times_169 (by omega) (by assumption) (by omega) (by omega) ?_
        first | rw [zms_same] | rw [zms_nq _ _ _ _ _ (by omega), zms_same]
        refine z_if_eq X dX8_times_170 186 (by decide) (by omega) (fun h170 => ?_) (fun h170 => ?_)
        · refine z_iconst X dX8_times_186 ?_
          refine z_bast X (s) dX8_times_187 (by omega) (by first | exact Or.inl rfl | exact Or.inr rfl | omega) (by assumption) (by omega) (by omega) ?_
          refine z_return (st := []) X rfl hQ dX8_times_188 ⟨rfl, rfl, ?_⟩
          first
            | (exfalso; omega)
            | exact fin1 _ _ (by omega) (by omega)
            | exact fin0 _ _ (by omega) (by omega)
        · refine z_aload_n X dX8_times_173 rfl ?_
          refine z_getR X dX8_times_174 f_X8_14 rfl (by first | assumption | exact zbigA.o (by assumption)) (by assumption) ?_
          refine z_iload_n X dX8_times_177 rfl ?_
          refine z_iald X (s) dX8_times_178 (by omega) (by assumption) (by omega) (by omega) ?_
          first | rw [zms_same] | rw [zms_nq _ _ _ _ _ (by omega), hn]
          refine z_if_le X dX8_times_179 186 (by decide) (by omega) (fun h179 => ?_) (fun h179 => ?_)
          · refine z_iconst X dX8_times_186 ?_
            refine z_bast X (s) dX8_times_187 (by omega) (by first | exact Or.inl rfl | exact Or.inr rfl | omega) (by assumption) (by omega) (by omega) ?_
            refine z_return (st := []) X rfl hQ dX8_times_188 ⟨rfl, rfl, ?_⟩
            first
              | (exfalso; omega)
              | exact fin1 _ _ (by omega) (by omega)
              | exact fin0 _ _ (by omega) (by omega)
          · refine z_iconst X dX8_times_182 ?_
            refine z_goto X dX8_times_183 187 (by decide) ?_
            refine z_bast X (s) dX8_times_187 (by omega) (by first | exact Or.inl rfl | exact Or.inr rfl | omega) (by assumption) (by omega) (by omega) ?_
            refine z_return (st := []) X rfl hQ dX8_times_188 ⟨rfl, rfl, ?_⟩
            first
              | (exfalso; omega)
              | exact fin1 _ _ (by omega) (by omega)
              | exact fin0 _ _ (by omega) (by omega)
      · refine z_aload_n X dX8_times_152 rfl ?_
        refine z_getR X dX8_times_153 f_X8_14 rfl (by first | assumption | exact zbigA.o (by assumption)) (by assumption) ?_
        refine z_iload_n X dX8_times_156 rfl ?_
        refine z_iconst X dX8_times_157 ?_
        refine z_iast X (s) dX8_times_158 (by omega) (by assumption) (by omega) (by omega) ?_
        refine z_aload_n X dX8_times_159 rfl ?_
        refine z_getR X dX8_times_160 f_X8_17 rfl (by first | assumption | exact zbigA.o (by assumption)) (by assumption) ?_
        refine z_iload_n X dX8_times_163 rfl ?_
        refine z_aload_n X dX8_times_164 rfl ?_
        refine z_getR X dX8_times_165 f_X8_17 rfl (by first | assumption | exact zbigA.o (by assumption)) (by assumption) ?_
        refine z_iload_n X dX8_times_168 rfl ?_
        refine z_bald X (s) dX8_times_169 (by omega) (by assumption) (by omega) (by omega) ?_
        first | rw [zms_same] | rw [zms_nq _ _ _ _ _ (by omega), zms_same]
        refine z_if_eq X dX8_times_170 186 (by decide) (by omega) (fun h170 => ?_) (fun h170 => ?_)
        · refine z_iconst X dX8_times_186 ?_
          refine z_bast X (s) dX8_times_187 (by omega) (by first | exact Or.inl rfl | exact Or.inr rfl | omega) (by assumption) (by omega) (by omega) ?_
          refine z_return (st := []) X rfl hQ dX8_times_188 ⟨rfl, rfl, ?_⟩
          first
            | (exfalso; omega)
            | exact fin1 _ _ (by omega) (by omega)
            | exact fin0 _ _ (by omega) (by omega)
        · refine z_aload_n X dX8_times_173 rfl ?_
          refine z_getR X dX8_times_174 f_X8_14 rfl (by first | assumption | exact zbigA.o (by assumption)) (by assumption) ?_
          refine z_iload_n X dX8_times_177 rfl ?_
          refine z_iald X (s) dX8_times_178 (by omega) (by assumption) (by omega) (by omega) ?_
          first | rw [zms_same] | rw [zms_nq _ _ _ _ _ (by omega), hn]
          refine z_if_le X dX8_times_179 186 (by decide) (by omega) (fun h179 => ?_) (fun h179 => ?_)
          · refine z_iconst X dX8_times_186 ?_
            refine z_bast X (s) dX8_times_187 (by omega) (by first | exact Or.inl rfl | exact Or.inr rfl | omega) (by assumption) (by omega) (by omega) ?_
            refine z_return (st := []) X rfl hQ dX8_times_188 ⟨rfl, rfl, ?_⟩
            first
              | (exfalso; omega)
              | exact fin1 _ _ (by omega) (by omega)
              | exact fin0 _ _ (by omega) (by omega)
          · refine z_iconst X dX8_times_182 ?_
            refine z_goto X dX8_times_183 187 (by decide) ?_
            refine z_bast X (s) dX8_times_187 (by omega) (by first | exact Or.inl rfl | exact Or.inr rfl | omega) (by assumption) (by omega) (by omega) ?_
            refine z_return (st := []) X rfl hQ dX8_times_188 ⟨rfl, rfl, ?_⟩
            first
              | (exfalso; omega)
              | exact fin1 _ _ (by omega) (by omega)
              | exact fin0 _ _ (by omega) (by omega)
theorem c_X8_times (G : zG) {A : zA} {m : zM} {q s : Nat} {si f v : Int} (hA : zmodA A q) (hsi : si = (s : Int)) (hs : s < 60) (hf : -2147483648 ≤ f ∧ f < 2147483648) (hb : zsl m q s v) (hfit : zle (v * f) 38000) : zMet G k_X8_times [vr q, vi si, vi f] A m (zpv A (fun m' => zsl m' q s (v * f) ∧ zsP q (fun x => x = s) m m')) := by
  subst hsi
  obtain ⟨⟨hO0, f0, f1, f2, f3, f4, f5, f6, f7, f8, f9, f10, f11, f12, f16, f24, f25⟩, ⟨g1, g2, g3⟩, ⟨g4, g5, g6, g7, g8, g9⟩, ⟨g10, g11, g12, g13⟩, g14, g15, g16⟩ := id hA
  obtain ⟨n, ⟨hn, hn2⟩, ht, hv, hsg⟩ := hb
  refine zMet.of RX8 rfl (by decide +kernel) (Nat.le_of_ble_eq_true rfl) [some (vr q), some (vi (s : Int)), some (vi f), none, none, none, none, none] rfl (fun E hG X hQ hNm => ?_)
  subst hG
  refine z_iload_n X dX8_times_0 rfl ?_
  refine z_if_ge X dX8_times_1 10 (by decide) (by omega) (fun h1 => ?_) (fun h1 => ?_)
  · refine z_iload_n X dX8_times_10 rfl ?_
    refine z_i2l X dX8_times_11 (by omega) ?_
    refine z_lstore_n X dX8_times_12 (fun y => [_, _, _, some (vl y), _, _, _, _]) (by decide) (fun _ => rfl) (fun y hy => ?_)
    refine z_lconst X dX8_times_13 0 rfl ?_
    refine z_lstore X dX8_times_14 (fun y => [_, _, _, _, _, some (vl y), _, _]) (by decide) (fun _ => rfl) (fun x5_14 hx5_14 => ?_)
    subst hx5_14
    refine z_sipush X dX8_times_16 (by decide) ?_
    refine z_iload_n X dX8_times_19 rfl ?_
    refine z_imul X dX8_times_20 ?_
    refine z_istore X dX8_times_21 (fun y => [_, _, _, _, _, _, _, some (vi y)]) (by decide) (fun _ => rfl) (fun z hz => ?_)
    obtain rfl : y = (f.natAbs : Int) := by omega
    obtain rfl : z = ((1200 * s + 0 : Nat) : Int) := by omega
    refine zl8_times X hA hs hn hn2 (by' := (f.natAbs : Int)) (by omega) n 0 m 0 (by omega) zsP.rfl' hn rfl (fun _ _ _ => rfl) (by omega) (by omega) (by simp [zsum]) (fun m' c k1 k2 k3 k4 k5 k6 => ?_)
    have hab : ((v * f).natAbs : Int) = zsum 4294967296 (zwd m' q s) n + c * 4294967296 ^ n := by
      rw [k6, Int.natAbs_mul, Int.natCast_mul, ← hv]
    have hlt := hfit.lt32 (N := 1199) (by omega)
    have hpn := zpow_pos (b := 4294967296) (by omega) n
    have hz0 := zsum_nonneg (b := 4294967296) (by omega) (f := zwd m' q s) (n := n) (fun i _ => (zwd_bd m' q s i).1)
    refine z_lload X dX8_times_82 rfl ?_
    refine z_lconst X dX8_times_84 0 rfl ?_
    refine z_lcmp_eq X dX8_times_85 dX8_times_86 119 (by decide) (by omega) (by omega) (fun h85 => ?_) (fun h85 => ?_)
    · have hc : c = 0 := by omega
      rw [hc, Int.zero_mul, Int.add_zero] at hab
      refine zt8_times119 X hQ hA hs hf rfl k1 k2 hn2 (by rw [k3]; exact hsg) (fun hf0 hn0 => ?_) (fun _ => hab) (fun m' g1 g2 => ⟨g1, g2⟩)
      obtain ⟨d, rfl⟩ : ∃ d, n = d + 1 := ⟨n - 1, by omega⟩
      rw [Nat.add_sub_cancel]
      refine zsum_low (b := 4294967296) (by omega) (fun i _ => zwd_bd m' q s i) ?_
      have g1 := zsum_top (n := d) (b := 4294967296) (by omega) (fun i _ => (zwd_bd m q s i).1) (ht (by omega))
      have g0 := zpow_pos (b := 4294967296) (by omega) d
      have g2 : zsum 4294967296 (zwd m q s) (d + 1) * 1 ≤ zsum 4294967296 (zwd m q s) (d + 1) * (f.natAbs : Int) := Int.mul_le_mul_of_nonneg_left (by omega) (by omega)
      rw [hc] at k6
      omega
    · have hn3 : n < 1199 := by
        refine zpow_lt32 (x := c * 4294967296 ^ n) ?_ (by omega)
        have : 1 * 4294967296 ^ n ≤ c * 4294967296 ^ n := Int.mul_le_mul_of_nonneg_right (by omega) (by omega)
        omega
      refine z_aload_n X dX8_times_89 rfl ?_
      refine z_getR X dX8_times_90 f_X8_8 rfl (by first | assumption | exact zbigA.o (by assumption)) (by assumption) ?_
      refine z_sipush X dX8_times_93 (by decide) ?_
      refine z_iload_n X dX8_times_96 rfl ?_
      refine z_imul X dX8_times_97 ?_
      refine z_aload_n X dX8_times_98 rfl ?_
      refine z_getR X dX8_times_99 f_X8_14 rfl (by first | assumption | exact zbigA.o (by assumption)) (by assumption) ?_
      refine z_iload_n X dX8_times_102 rfl ?_
      refine z_iald X (s) dX8_times_103 (by omega) (by assumption) (by omega) (by omega) ?_
      refine z_iadd X dX8_times_104 ?_
      refine z_lload X dX8_times_105 rfl ?_
      refine z_l2i X dX8_times_107 ?_
      refine z_iast X (1200 * s + n) dX8_times_108 (by omega) (by assumption) (by omega) (by omega) ?_
      refine z_aload_n X dX8_times_109 rfl ?_
      refine z_getR X dX8_times_110 f_X8_14 rfl (by first | assumption | exact zbigA.o (by assumption)) (by assumption) ?_
      refine z_iload_n X dX8_times_113 rfl ?_
      refine z_dup2 X dX8_times_114 rfl rfl ?_
      refine z_iald X (s) dX8_times_115 (by omega) (by assumption) (by omega) (by omega) ?_
      rw [zms_nq _ _ _ _ _ (by omega), k2]
      refine z_iconst X dX8_times_116 ?_
      refine z_iadd X dX8_times_117 ?_
      refine z_iast X (s) dX8_times_118 (by omega) (by assumption) (by omega) (by omega) ?_
      have e4 : ∀ i, i < n → zwd (zms (zms m' (q + 1) (1200 * s + n) c) (q + 2) s ((n : Int) + 1)) q s i = zwd m' q s i := fun i hi => by unfold zwd; rw [zms_nq _ _ _ _ _ (by omega), zms_nk _ _ _ _ _ (by omega)]
      have e5 : zwd (zms (zms m' (q + 1) (1200 * s + n) c) (q + 2) s ((n : Int) + 1)) q s n = c := by unfold zwd; rw [zms_nq _ _ _ _ _ (by omega), zms_same]; omega
      refine zt8_times119 X hQ hA hs hf rfl (n := n + 1) ((k1.w1 (i := n) rfl (by omega)).w2 rfl) (by rw [zms_same]; omega) (by omega) (by rw [zms_nq _ _ _ _ _ (by omega), zms_nq _ _ _ _ _ (by omega), k3]; exact hsg) (fun hf0 hn0 => ?_) (fun _ => ?_) (fun m' g1 g2 => ⟨g1, g2⟩)
      · rw [Nat.add_sub_cancel, e5]; omega
      · rw [hab, zsum_s, zsum_congr e4, e5]
  · refine z_iload_n X dX8_times_4 rfl ?_
    refine z_i2l X dX8_times_5 (by omega) ?_
    refine z_lneg X dX8_times_6 ?_
    refine z_goto X dX8_times_7 12 (by decide) ?_
    refine z_lstore_n X dX8_times_12 (fun y => [_, _, _, some (vl y), _, _, _, _]) (by decide) (fun _ => rfl) (fun y hy => ?_)
    refine z_lconst X dX8_times_13 0 rfl ?_
    refine z_lstore X dX8_times_14 (fun y => [_, _, _, _, _, some (vl y), _, _]) (by decide) (fun _ => rfl) (fun x5_14 hx5_14 => ?_)
    subst hx5_14
    refine z_sipush X dX8_times_16 (by decide) ?_
    refine z_iload_n X dX8_times_19 rfl ?_
    refine z_imul X dX8_times_20 ?_
    refine z_istore X dX8_times_21 (fun y => [_, _, _, _, _, _, _, some (vi y)]) (by decide) (fun _ => rfl) (fun z hz => ?_)
    obtain rfl : y = (f.natAbs : Int) := by omega
    obtain rfl : z = ((1200 * s + 0 : Nat) : Int) := by omega
    refine zl8_times X hA hs hn hn2 (by' := (f.natAbs : Int)) (by omega) n 0 m 0 (by omega) zsP.rfl' hn rfl (fun _ _ _ => rfl) (by omega) (by omega) (by simp [zsum]) (fun m' c k1 k2 k3 k4 k5 k6 => ?_)
    have hab : ((v * f).natAbs : Int) = zsum 4294967296 (zwd m' q s) n + c * 4294967296 ^ n := by
      rw [k6, Int.natAbs_mul, Int.natCast_mul, ← hv]
    have hlt := hfit.lt32 (N := 1199) (by omega)
    have hpn := zpow_pos (b := 4294967296) (by omega) n
    have hz0 := zsum_nonneg (b := 4294967296) (by omega) (f := zwd m' q s) (n := n) (fun i _ => (zwd_bd m' q s i).1)
    refine z_lload X dX8_times_82 rfl ?_
    refine z_lconst X dX8_times_84 0 rfl ?_
    refine z_lcmp_eq X dX8_times_85 dX8_times_86 119 (by decide) (by omega) (by omega) (fun h85 => ?_) (fun h85 => ?_)
    · have hc : c = 0 := by omega
      rw [hc, Int.zero_mul, Int.add_zero] at hab
      refine zt8_times119 X hQ hA hs hf rfl k1 k2 hn2 (by rw [k3]; exact hsg) (fun hf0 hn0 => ?_) (fun _ => hab) (fun m' g1 g2 => ⟨g1, g2⟩)
      obtain ⟨d, rfl⟩ : ∃ d, n = d + 1 := ⟨n - 1, by omega⟩
      rw [Nat.add_sub_cancel]
      refine zsum_low (b := 4294967296) (by omega) (fun i _ => zwd_bd m' q s i) ?_
      have g1 := zsum_top (n := d) (b := 4294967296) (by omega) (fun i _ => (zwd_bd m q s i).1) (ht (by omega))
      have g0 := zpow_pos (b := 4294967296) (by omega) d
      have g2 : zsum 4294967296 (zwd m q s) (d + 1) * 1 ≤ zsum 4294967296 (zwd m q s) (d + 1) * (f.natAbs : Int) := Int.mul_le_mul_of_nonneg_left (by omega) (by omega)
      rw [hc] at k6
      omega
    · have hn3 : n < 1199 := by
        refine zpow_lt32 (x := c * 4294967296 ^ n) ?_ (by omega)
        have : 1 * 4294967296 ^ n ≤ c * 4294967296 ^ n := Int.mul_le_mul_of_nonneg_right (by omega) (by omega)
        omega
      refine z_aload_n X dX8_times_89 rfl ?_
      refine z_getR X dX8_times_90 f_X8_8 rfl (by first | assumption | exact zbigA.o (by assumption)) (by assumption) ?_
      refine z_sipush X dX8_times_93 (by decide) ?_
      refine z_iload_n X dX8_times_96 rfl ?_
      refine z_imul X dX8_times_97 ?_
      refine z_aload_n X dX8_times_98 rfl ?_
      refine z_getR X dX8_times_99 f_X8_14 rfl (by first | assumption | exact zbigA.o (by assumption)) (by assumption) ?_
      refine z_iload_n X dX8_times_102 rfl ?_
      refine z_iald X (s) dX8_times_103 (by omega) (by assumption) (by omega) (by omega) ?_
      refine z_iadd X dX8_times_104 ?_
      refine z_lload X dX8_times_105 rfl ?_
      refine z_l2i X dX8_times_107 ?_
      refine z_iast X (1200 * s + n) dX8_times_108 (by omega) (by assumption) (by omega) (by omega) ?_
      refine z_aload_n X dX8_times_109 rfl ?_
      refine z_getR X dX8_times_110 f_X8_14 rfl (by first | assumption | exact zbigA.o (by assumption)) (by assumption) ?_
      refine z_iload_n X dX8_times_113 rfl ?_
      refine z_dup2 X dX8_times_114 rfl rfl ?_
      refine z_iald X (s) dX8_times_115 (by omega) (by assumption) (by omega) (by omega) ?_
      rw [zms_nq _ _ _ _ _ (by omega), k2]
      refine z_iconst X dX8_times_116 ?_
      refine z_iadd X dX8_times_117 ?_
      refine z_iast X (s) dX8_times_118 (by omega) (by assumption) (by omega) (by omega) ?_
      have e4 : ∀ i, i < n → zwd (zms (zms m' (q + 1) (1200 * s + n) c) (q + 2) s ((n : Int) + 1)) q s i = zwd m' q s i := fun i hi => by unfold zwd; rw [zms_nq _ _ _ _ _ (by omega), zms_nk _ _ _ _ _ (by omega)]
      have e5 : zwd (zms (zms m' (q + 1) (1200 * s + n) c) (q + 2) s ((n : Int) + 1)) q s n = c := by unfold zwd; rw [zms_nq _ _ _ _ _ (by omega), zms_same]; omega
      refine zt8_times119 X hQ hA hs hf rfl (n := n + 1) ((k1.w1 (i := n) rfl (by omega)).w2 rfl) (by rw [zms_same]; omega) (by omega) (by rw [zms_nq _ _ _ _ _ (by omega), zms_nq _ _ _ _ _ (by omega), k3]; exact hsg) (fun hf0 hn0 => ?_) (fun _ => ?_) (fun m' g1 g2 => ⟨g1, g2⟩)
      · rw [Nat.add_sub_cancel, e5]; omega
      · rw [hab, zsum_s, zsum_congr e4, e5]
theorem zl8_order {E : zCx} {rm : Room} {A : zA} (X : zOK E cX8_order RX8 8 (some .int) rm) {q a b n : Nat} (hA : zmodA A q) (ha : a < 60) (hb : b < 60) (hn2 : n ≤ 1200) {m : zM} {P : Int → zM → Prop} (hQ : zRet E (zpi A P) 0 0) (hlt : zsum 4294967296 (zwd m q a) n < zsum 4294967296 (zwd m q b) n → P (-1) m) (heq : zsum 4294967296 (zwd m q a) n = zsum 4294967296 (zwd m q b) n → P 0 m) (hgt : zsum 4294967296 (zwd m q b) n < zsum 4294967296 (zwd m q a) n → P 1 m) : ∀ (r : Nat) (l4 l5 l6 l7 : Option Value), r ≤ n → (∀ j, r ≤ j → j < n → zwd m q a j = zwd m q b j) → zW E (0, 0) A m 38 [some (vr q), some (vi (a : Int)), some (vi (b : Int)), some (vi ((r : Int) - 1)), l4, l5, l6, l7] [] := by
  obtain ⟨⟨hO0, f0, f1, f2, f3, f4, f5, f6, f7, f8, f9, f10, f11, f12, f16, f24, f25⟩, ⟨g1, g2, g3⟩, ⟨g4, g5, g6, g7, g8, g9⟩, ⟨g10, g11, g12, g13⟩, g14, g15, g16⟩ := id hA
  intro r
  induction r with
  | zero =>
    intro l4 l5 l6 l7 hr he
    refine z_iload_n X dX8_order_38 rfl ?_
    refine z_if_lt X dX8_order_39 108 (by decide) (by omega) (fun h39 => ?_) (fun h39 => ?_)
    · refine z_iconst X dX8_order_108 ?_
      refine z_ireturn (st := []) X rfl hQ dX8_order_109 ⟨rfl, _, rfl, ?_⟩
      exact heq (zsum_congr (fun j hj => he j (by omega) hj))
    · exact absurd h39 (by omega)
  | succ r ih =>
    intro l4 l5 l6 l7 hr he
    have e5 := zwd_bd m q a r
    have e6 := zwd_bd m q b r
    have e7 : m (q + 1) (1200 * a + r) % 4294967296 = zwd m q a r := rfl
    have e8 : m (q + 1) (1200 * b + r) % 4294967296 = zwd m q b r := rfl
    refine z_iload_n X dX8_order_38 rfl ?_
    refine z_if_lt X dX8_order_39 108 (by decide) (by omega) (fun h39 => ?_) (fun h39 => ?_)
    · exact absurd h39 (by omega)
    · refine z_aload_n X dX8_order_42 rfl ?_
      refine z_getR X dX8_order_43 f_X8_8 rfl (by first | assumption | exact zbigA.o (by assumption)) (by assumption) ?_
      refine z_sipush X dX8_order_46 (by decide) ?_
      refine z_iload_n X dX8_order_49 rfl ?_
      refine z_imul X dX8_order_50 ?_
      refine z_iload_n X dX8_order_51 rfl ?_
      refine z_iadd X dX8_order_52 ?_
      refine z_iald X (1200 * a + r) dX8_order_53 (by omega) (by assumption) (by omega) (by omega) ?_
      refine z_i2lm X dX8_order_54 dX8_order_55 q_X8_64 dX8_order_58 ?_
      refine z_lstore X dX8_order_59 (fun y => [_, _, _, _, some (vl y), _, _, _]) (by decide) (fun _ => rfl) (fun x hx => ?_)
      refine z_aload_n X dX8_order_61 rfl ?_
      refine z_getR X dX8_order_62 f_X8_8 rfl (by first | assumption | exact zbigA.o (by assumption)) (by assumption) ?_
      refine z_sipush X dX8_order_65 (by decide) ?_
      refine z_iload_n X dX8_order_68 rfl ?_
      refine z_imul X dX8_order_69 ?_
      refine z_iload_n X dX8_order_70 rfl ?_
      refine z_iadd X dX8_order_71 ?_
      refine z_iald X (1200 * b + r) dX8_order_72 (by omega) (by assumption) (by omega) (by omega) ?_
      refine z_i2lm X dX8_order_73 dX8_order_74 q_X8_64 dX8_order_77 ?_
      refine z_lstore X dX8_order_78 (fun y => [_, _, _, _, _, _, some (vl y), _]) (by decide) (fun _ => rfl) (fun y hy => ?_)
      refine z_lload X dX8_order_80 rfl ?_
      refine z_lload X dX8_order_82 rfl ?_
      refine z_lcmp_eq X dX8_order_84 dX8_order_85 102 (by decide) (by omega) (by omega) (fun h84 => ?_) (fun h84 => ?_)
      · refine z_iinc X dX8_order_102 rfl (fun y => [_, _, _, some (vi y), _, _, _, _]) (fun _ => rfl) (fun k hk => ?_)
        obtain rfl : k = (r : Int) - 1 := by omega
        refine z_goto X dX8_order_105 38 (by decide) ?_
        refine ih _ _ _ _ (by omega) (fun j h1 h2 => ?_)
        by_cases hj : j = r
        · rw [hj]; omega
        · exact he j (by omega) h2
      · refine z_lload X dX8_order_88 rfl ?_
        refine z_lload X dX8_order_90 rfl ?_
        refine z_lcmp_ge X dX8_order_92 dX8_order_93 100 (by decide) (by omega) (by omega) (fun h92 => ?_) (fun h92 => ?_)
        · refine z_iconst X dX8_order_100 ?_
          refine z_ireturn (st := []) X rfl hQ dX8_order_101 ⟨rfl, _, rfl, ?_⟩
          exact hgt (zsum_cmp (by omega) (fun j _ => zwd_bd m q b j) (fun j _ => zwd_bd m q a j) (i := r) (by omega) (fun j h1 h2 => (he j (by omega) h2).symm) (by omega))
        · refine z_iconst X dX8_order_96 ?_
          refine z_goto X dX8_order_97 101 (by decide) ?_
          refine z_ireturn (st := []) X rfl hQ dX8_order_101 ⟨rfl, _, rfl, ?_⟩
          exact hlt (zsum_cmp (by omega) (fun j _ => zwd_bd m q a j) (fun j _ => zwd_bd m q b j) (i := r) (by omega) (fun j h1 h2 => he j (by omega) h2) (by omega))
theorem c_X8_order (G : zG) {A : zA} {m : zM} {q a b : Nat} {ai bi v w : Int} (hA : zmodA A q) (hai : ai = (a : Int)) (hbi : bi = (b : Int)) (ha : a < 60) (hb : b < 60) (hv : zsl m q a v) (hw : zsl m q b w) : zMet G k_X8_order [vr q, vi ai, vi bi] A m (zpi A (fun r m' => m = m' ∧ (-1200 ≤ r ∧ r ≤ 1200) ∧ ((r < 0 ∧ v.natAbs < w.natAbs) ∨ (r = 0 ∧ v.natAbs = w.natAbs) ∨ (0 < r ∧ w.natAbs < v.natAbs)))) := by
  subst hai hbi
  obtain ⟨⟨hO0, f0, f1, f2, f3, f4, f5, f6, f7, f8, f9, f10, f11, f12, f16, f24, f25⟩, ⟨g1, g2, g3⟩, ⟨g4, g5, g6, g7, g8, g9⟩, ⟨g10, g11, g12, g13⟩, g14, g15, g16⟩ := id hA
  obtain ⟨n, ⟨n1, n2⟩, n3, n4, n5⟩ := hv
  obtain ⟨k, ⟨k1, k2⟩, k3, k4, k5⟩ := hw
  refine zMet.of RX8 rfl (by decide +kernel) (Nat.le_of_ble_eq_true rfl) [some (vr q), some (vi (a : Int)), some (vi (b : Int)), none, none, none, none, none] rfl (fun E hG X hQ hNm => ?_)
  subst hG
  refine z_aload_n X dX8_order_0 rfl ?_
  refine z_getR X dX8_order_1 f_X8_14 rfl (by first | assumption | exact zbigA.o (by assumption)) (by assumption) ?_
  refine z_iload_n X dX8_order_4 rfl ?_
  refine z_iald X (a) dX8_order_5 (by omega) (by assumption) (by omega) (by omega) ?_
  refine z_aload_n X dX8_order_6 rfl ?_
  refine z_getR X dX8_order_7 f_X8_14 rfl (by first | assumption | exact zbigA.o (by assumption)) (by assumption) ?_
  refine z_iload_n X dX8_order_10 rfl ?_
  refine z_iald X (b) dX8_order_11 (by omega) (by assumption) (by omega) (by omega) ?_
  refine z_icmp_eq X dX8_order_12 29 (by decide) (by omega) (by omega) (fun h12 => ?_) (fun h12 => ?_)
  · refine z_aload_n X dX8_order_29 rfl ?_
    refine z_getR X dX8_order_30 f_X8_14 rfl (by first | assumption | exact zbigA.o (by assumption)) (by assumption) ?_
    refine z_iload_n X dX8_order_33 rfl ?_
    refine z_iald X (_) dX8_order_34 rfl (by assumption) (by omega) (by omega) ?_
    refine z_iconst X dX8_order_35 ?_
    refine z_isub X dX8_order_36 ?_
    refine z_istore_n X dX8_order_37 (fun y => [_, _, _, some (vi y), _, _, _, _]) (by decide) (fun _ => rfl) (fun x hx => ?_)
    obtain rfl : n = k := by omega
    obtain rfl : x = (n : Int) - 1 := by omega
    exact zl8_order X hA ha hb n2 hQ (fun h => ⟨rfl, by omega, by omega⟩) (fun h => ⟨rfl, by omega, by omega⟩) (fun h => ⟨rfl, by omega, by omega⟩) n none none none none (by omega) (fun j h1 h2 => absurd h1 (by omega))
  · refine z_aload_n X dX8_order_15 rfl ?_
    refine z_getR X dX8_order_16 f_X8_14 rfl (by first | assumption | exact zbigA.o (by assumption)) (by assumption) ?_
    refine z_iload_n X dX8_order_19 rfl ?_
    refine z_iald X (_) dX8_order_20 rfl (by assumption) (by omega) (by omega) ?_
    refine z_aload_n X dX8_order_21 rfl ?_
    refine z_getR X dX8_order_22 f_X8_14 rfl (by first | assumption | exact zbigA.o (by assumption)) (by assumption) ?_
    refine z_iload_n X dX8_order_25 rfl ?_
    refine z_iald X (_) dX8_order_26 rfl (by assumption) (by omega) (by omega) ?_
    refine z_isub X dX8_order_27 ?_
    refine z_ireturn (st := []) X rfl hQ dX8_order_28 ⟨rfl, _, rfl, ?_⟩
    refine ⟨rfl, by omega, ?_⟩
    rcases Nat.lt_or_ge n k with h | h
    · have := zsum_len (b := 4294967296) (by omega) (fun j _ => zwd_bd m q a j) (fun j _ => zwd_bd m q b j) h (k3 (by omega))
      exact Or.inl ⟨by omega, by omega⟩
    · have := zsum_len (b := 4294967296) (by omega) (fun j _ => zwd_bd m q b j) (fun j _ => zwd_bd m q a j) (show k < n by omega) (n3 (by omega))
      exact Or.inr (Or.inr ⟨by omega, by omega⟩)
/-- what trim comes to: k words, the rest was 0 -/
theorem zl8_trim {E : zCx} {rm : Room} {cs : Nat × Nat} {A : zA} (X : zOK E cX8_trim RX8 2 none rm) {q s : Nat} (hA : zmodA A q) (hs : s < 60) : ∀ (n : Nat) (m : zM), m (q + 2) s = (n : Int) → n ≤ 1200 →
    (∀ (k : Nat) (m' : zM), k ≤ n → (∀ i, k ≤ i → i < n → zwd m q s i = 0) → (k ≠ 0 → zwd m q s (k - 1) ≠ 0) → m' (q + 2) s = (k : Int) → m' (q + 1) = m (q + 1) → m' (q + 3) = m (q + 3) → zsP q (fun x => x = s) m m' → zW E cs A m' 44 [some (vr q), some (vi (s : Int))] []) → zW E cs A m 0 [some (vr q), some (vi (s : Int))] [] := by
  obtain ⟨⟨hO0, f0, f1, f2, f3, f4, f5, f6, f7, f8, f9, f10, f11, f12, f16, f24, f25⟩, ⟨g1, g2, g3⟩, ⟨g4, g5, g6, g7, g8, g9⟩, ⟨g10, g11, g12, g13⟩, g14, g15, g16⟩ := id hA
  intro n
  induction n with
  | zero =>
    intro m e1 hn K
    refine z_aload_n X dX8_trim_0 rfl ?_
    refine z_getR X dX8_trim_1 f_X8_14 rfl (by first | assumption | exact zbigA.o (by assumption)) (by assumption) ?_
    refine z_iload_n X dX8_trim_4 rfl ?_
    refine z_iald X (s) dX8_trim_5 (by omega) (by assumption) (by omega) (by omega) ?_
    refine z_if_le X dX8_trim_6 44 (by decide) (by omega) (fun h6 => ?_) (fun h6 => ?_)
    · exact K 0 m (by omega) (fun i _ h => absurd h (by omega)) (fun h => absurd rfl h) e1 rfl rfl zsP.rfl'
    · exact absurd h6 (by omega)
  | succ n ih =>
    intro m e1 hn K
    have e2 : zwd m q s n = m (q + 1) (1200 * s + n) % 4294967296 := rfl
    refine z_aload_n X dX8_trim_0 rfl ?_
    refine z_getR X dX8_trim_1 f_X8_14 rfl (by first | assumption | exact zbigA.o (by assumption)) (by assumption) ?_
    refine z_iload_n X dX8_trim_4 rfl ?_
    refine z_iald X (s) dX8_trim_5 (by omega) (by assumption) (by omega) (by omega) ?_
    refine z_if_le X dX8_trim_6 44 (by decide) (by omega) (fun h6 => ?_) (fun h6 => ?_)
    · exact absurd h6 (by omega)
    · refine z_aload_n X dX8_trim_9 rfl ?_
      refine z_getR X dX8_trim_10 f_X8_8 rfl (by first | assumption | exact zbigA.o (by assumption)) (by assumption) ?_
      refine z_sipush X dX8_trim_13 (by decide) ?_
      refine z_iload_n X dX8_trim_16 rfl ?_
      refine z_imul X dX8_trim_17 ?_
      refine z_aload_n X dX8_trim_18 rfl ?_
      refine z_getR X dX8_trim_19 f_X8_14 rfl (by first | assumption | exact zbigA.o (by assumption)) (by assumption) ?_
      refine z_iload_n X dX8_trim_22 rfl ?_
      refine z_iald X (s) dX8_trim_23 (by omega) (by assumption) (by omega) (by omega) ?_
      refine z_iadd X dX8_trim_24 ?_
      refine z_iconst X dX8_trim_25 ?_
      refine z_isub X dX8_trim_26 ?_
      refine z_iald X (1200 * s + n) dX8_trim_27 (by omega) (by assumption) (by omega) (by omega) ?_
      refine z_if_ne32 X dX8_trim_28 44 (by decide) (fun h28 => ?_) (fun h28 => ?_)
      · exact K (n + 1) m (by omega) (fun i h1 h2 => absurd h1 (by omega)) (fun _ => by rw [Nat.add_sub_cancel, e2]; exact h28) e1 rfl rfl zsP.rfl'
      · skip
        refine z_aload_n X dX8_trim_31 rfl ?_
        refine z_getR X dX8_trim_32 f_X8_14 rfl (by first | assumption | exact zbigA.o (by assumption)) (by assumption) ?_
        refine z_iload_n X dX8_trim_35 rfl ?_
        refine z_dup2 X dX8_trim_36 rfl rfl ?_
        refine z_iald X (s) dX8_trim_37 (by omega) (by assumption) (by omega) (by omega) ?_
        refine z_iconst X dX8_trim_38 ?_
        refine z_isub X dX8_trim_39 ?_
        refine z_iast X (s) dX8_trim_40 (by omega) (by assumption) (by omega) (by omega) ?_
        refine z_goto X dX8_trim_41 0 (by decide) ?_
        refine ih _ (by rw [zms_same]; omega) (by omega) (fun k m' g1 g2 g3 g4 g5 g6 g7 => ?_)
        have e5 : zms m (q + 2) s (m (q + 2) s - 1) (q + 1) = m (q + 1) := funext (fun j => zms_nq _ _ _ _ _ (by omega))
        have e6 : zms m (q + 2) s (m (q + 2) s - 1) (q + 3) = m (q + 3) := funext (fun j => zms_nq _ _ _ _ _ (by omega))
        have e7 : ∀ i, zwd (zms m (q + 2) s (m (q + 2) s - 1)) q s i = zwd m q s i := fun i => by unfold zwd; rw [e5]
        refine K k m' (by omega) (fun i h1 h2 => ?_) (fun h => by rw [← e7]; exact g3 h) g4 (g5.trans e5) (g6.trans e6) (((zsP.rfl' (S := fun x => x = s)).w2 rfl).t g7)
        by_cases hi : i = n
        · rw [hi, e2]; omega
        · rw [← e7]; exact g2 i h1 (by omega)
/-- raw words: n of them come to v, the sign is right but for 0 -/
theorem c_X8_trim (G : zG) {A : zA} {m : zM} {q s n : Nat} {si v : Int} (hA : zmodA A q) (hsi : si = (s : Int)) (hs : s < 60) (hn : m (q + 2) s = (n : Int)) (hn2 : n ≤ 1200) (hv : (v.natAbs : Int) = zsum 4294967296 (zwd m q s) n) (hsg : (m (q + 3) s = 0 ∧ 0 ≤ v) ∨ (m (q + 3) s = 1 ∧ v ≤ 0)) : zMet G k_X8_trim [vr q, vi si] A m (zpv A (fun m' => zsl m' q s v ∧ zsP q (fun x => x = s) m m')) := by
  subst hsi
  obtain ⟨⟨hO0, f0, f1, f2, f3, f4, f5, f6, f7, f8, f9, f10, f11, f12, f16, f24, f25⟩, ⟨g1, g2, g3⟩, ⟨g4, g5, g6, g7, g8, g9⟩, ⟨g10, g11, g12, g13⟩, g14, g15, g16⟩ := id hA
  refine zMet.of RX8 rfl (by decide +kernel) (Nat.le_of_ble_eq_true rfl) [some (vr q), some (vi (s : Int))] rfl (fun E hG X hQ hNm => ?_)
  subst hG
  refine zl8_trim X hA hs n m hn hn2 (fun k m' g1 g2 g3 g4 g5 g6 g7 => ?_)
  have e1 : zsum 4294967296 (zwd m q s) n = zsum 4294967296 (zwd m q s) k := by
    obtain ⟨d, rfl⟩ := Nat.exists_eq_add_of_le g1
    exact zsum_ext d g2
  have e2 : m' (q + 3) s = m (q + 3) s := by rw [g6]
  have e3 : ∀ (b : Int) i, zwd (zms m' (q + 3) s b) q s i = zwd m q s i := fun b i => by unfold zwd; rw [zms_nq _ _ _ _ _ (by omega), g5]
  have e4 : k = 0 → v = 0 := fun h => by rw [e1, h, zsum_0] at hv; omega
  have e5 : k ≠ 0 → v ≠ 0 := fun h => by
    obtain ⟨d, rfl⟩ : ∃ d, k = d + 1 := ⟨k - 1, by omega⟩
    have w1 := zsum_top (b := 4294967296) (n := d) (by omega) (fun i _ => (zwd_bd m q s i).1) (g3 h)
    have w2 := zpow_pos (b := 4294967296) (by omega) d
    omega
  have fin : ∀ b : Int, ((b = 0 ∧ 0 ≤ v) ∨ (b = 1 ∧ v < 0)) → zsl (zms m' (q + 3) s b) q s v ∧ zsP q (fun x => x = s) m (zms m' (q + 3) s b) := fun b hb => ⟨⟨k, ⟨by rw [zms_nq _ _ _ _ _ (by omega), g4], by omega⟩, fun h => by rw [e3]; exact g3 h, by rw [hv, e1]; exact zsum_congr (fun i _ => (e3 b i).symm), by rw [zms_same]; exact hb⟩, g7.w3 rfl⟩
  refine z_aload_n X dX8_trim_44 rfl ?_
  refine z_getR X dX8_trim_45 f_X8_17 rfl (by first | assumption | exact zbigA.o (by assumption)) (by assumption) ?_
  refine z_iload_n X dX8_trim_48 rfl ?_
  refine z_aload_n X dX8_trim_49 rfl ?_
  refine z_getR X dX8_trim_50 f_X8_17 rfl (by first | assumption | exact zbigA.o (by assumption)) (by assumption) ?_
  refine z_iload_n X dX8_trim_53 rfl ?_
  refine z_bald X (s) dX8_trim_54 (by omega) (by assumption) (by omega) (by omega) ?_
  refine z_if_eq X dX8_trim_55 71 (by decide) (by omega) (fun h55 => ?_) (fun h55 => ?_)
  · refine z_iconst X dX8_trim_71 ?_
    refine z_bast X (s) dX8_trim_72 (by omega) (by first | exact Or.inl rfl | exact Or.inr rfl | omega) (by assumption) (by omega) (by omega) ?_
    refine z_return (st := []) X rfl hQ dX8_trim_73 ⟨rfl, rfl, ?_⟩
    exact fin _ (by omega)
  · refine z_aload_n X dX8_trim_58 rfl ?_
    refine z_getR X dX8_trim_59 f_X8_14 rfl (by first | assumption | exact zbigA.o (by assumption)) (by assumption) ?_
    refine z_iload_n X dX8_trim_62 rfl ?_
    refine z_iald X (_) dX8_trim_63 rfl (by assumption) (by omega) (by omega) ?_
    refine z_if_le X dX8_trim_64 71 (by decide) (by omega) (fun h64 => ?_) (fun h64 => ?_)
    · refine z_iconst X dX8_trim_71 ?_
      refine z_bast X (s) dX8_trim_72 (by omega) (by first | exact Or.inl rfl | exact Or.inr rfl | omega) (by assumption) (by omega) (by omega) ?_
      refine z_return (st := []) X rfl hQ dX8_trim_73 ⟨rfl, rfl, ?_⟩
      exact fin _ (by omega)
    · refine z_iconst X dX8_trim_67 ?_
      refine z_goto X dX8_trim_68 72 (by decide) ?_
      refine z_bast X (s) dX8_trim_72 (by omega) (by first | exact Or.inl rfl | exact Or.inr rfl | omega) (by assumption) (by omega) (by omega) ?_
      refine z_return (st := []) X rfl hQ dX8_trim_73 ⟨rfl, rfl, ?_⟩
      exact fin _ (by omega)

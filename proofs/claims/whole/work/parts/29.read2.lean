/-! Enclosure: readFigures, read -/
/-- figure k behind the point of l / w in base b -/
def zfg (l w b : Int) (k : Nat) : Int := l * b ^ (k + 1) / w % b
theorem zdig_eq {l w b : Int} {s t i : Nat} (hw : 0 < w) (hb : 2 ≤ b) (hi : i < t) : zdt b (l * b ^ s % w * b ^ t / w) t i = zfg l w b (s + i) := by
  unfold zdt zfg
  obtain ⟨d, rfl⟩ : ∃ d, t = i + 1 + d := Nat.exists_eq_add_of_le (by omega)
  have hp := zpow_pos (by omega : 0 < b) d
  rw [show i + 1 + d - 1 - i = d by omega, Int.ediv_ediv_of_nonneg (by omega), Int.pow_add b (i + 1) d, ← Int.mul_assoc, Int.mul_ediv_mul_of_pos_left _ _ hp]
  have h1 := Int.emod_add_mul_ediv (l * b ^ s) w
  have e : l * b ^ (s + i + 1) = l * b ^ s % w * b ^ (i + 1) + w * (l * b ^ s / w * b ^ (i + 1)) := by
    rw [Nat.add_assoc, Int.pow_add]
    have : l * (b ^ s * b ^ (i + 1)) = (l * b ^ s % w + w * (l * b ^ s / w)) * b ^ (i + 1) := by rw [h1]; grind
    rw [this]; grind
  rw [e, Int.add_mul_ediv_left _ _ (by omega), Int.pow_succ b i]
  have e2 : l * b ^ s / w * (b ^ i * b) = b * (l * b ^ s / w * b ^ i) := by grind
  rw [e2, Int.add_mul_emod_self_left]
theorem zfg_bd {l w b : Int} (hb : 2 ≤ b) (k : Nat) : 0 ≤ zfg l w b k ∧ zfg l w b k < b := ⟨Int.emod_nonneg _ (by omega), Int.emod_lt_of_pos _ (by omega)⟩
theorem zl_weight {E : zCx} {rm : Room} {cs : Nat × Nat} {A : zA} (X : zOK E cX2_readFigures RX2 9 none rm) {m : zM} {f s n : Nat} {b : Int} {v0 v1 v2 : Value} {same step : Int} {l8 : Option Value} (hFA : zfigA A f) (hb : 2 ≤ b ∧ b ≤ 36) (h2 : m f 2 = b) (h3 : m f 3 = (n : Int)) (h6 : m f 6 = (s : Int)) (hn : n ≤ 100)
    (K : ∀ (j : Nat) (i : Int), s + j + 1 ≤ n → b ^ (j + 1) ≤ 1073741824 → zW E cs A m 89 [some v0, some v1, some v2, some (vr f), some (vi same), some (vi step), some (vi (b ^ j)), some (vi i), l8] []) :
    ∀ (r j : Nat), s + j + 1 + r = n → b ^ (j + 1) ≤ 1073741824 → zW E cs A m 40 [some v0, some v1, some v2, some (vr f), some (vi same), some (vi step), some (vi (b ^ j)), some (vi ((s + 1 + j : Nat) : Int)), l8] [] := by
  obtain ⟨hF1, hF2, hF3⟩ := id hFA
  intro r
  induction r with
  | zero =>
    intro j hj hbj
    have hp := zpow_pos (by omega : 0 < b) j
    rw [Int.pow_succ] at hbj
    have hbj2 : b ^ j * 1 ≤ b ^ j * b := Int.mul_le_mul_of_nonneg_left (by omega) (by omega)
    refine z_iload X dX2_readFigures_40 rfl ?_
    refine z_aload_n X dX2_readFigures_42 rfl ?_
    refine z_getI X dX2_readFigures_43 f_X2_94 rfl (by first | assumption | exact zbigA.o (by assumption)) ?_
    refine z_icmp_ge X dX2_readFigures_46 89 (by decide) (by omega) (by omega) (fun h46 => ?_) (fun h46 => ?_)
    · exact K j _ (by omega) (by rw [Int.pow_succ]; exact hbj)
    · exact absurd h46 (by omega)
  | succ r ih =>
    intro j hj hbj
    have hp := zpow_pos (by omega : 0 < b) j
    have hbj' := hbj
    rw [Int.pow_succ] at hbj
    have hbj2 : b ^ j * 1 ≤ b ^ j * b := Int.mul_le_mul_of_nonneg_left (by omega) (by omega)
    have hbj3 : 0 ≤ b ^ j * b := by omega
    have hbj4 := zmul_le hbj3 hbj (by omega : 0 ≤ b) hb.2
    refine z_iload X dX2_readFigures_40 rfl ?_
    refine z_aload_n X dX2_readFigures_42 rfl ?_
    refine z_getI X dX2_readFigures_43 f_X2_94 rfl (by first | assumption | exact zbigA.o (by assumption)) ?_
    refine z_icmp_ge X dX2_readFigures_46 89 (by decide) (by omega) (by omega) (fun h46 => ?_) (fun h46 => ?_)
    · exact absurd h46 (by omega)
    · refine z_iload X dX2_readFigures_49 rfl ?_
      refine z_i2l X dX2_readFigures_51 (by omega) ?_
      skip
      refine z_aload_n X dX2_readFigures_52 rfl ?_
      refine z_getI X dX2_readFigures_53 f_X2_97 rfl (by first | assumption | exact zbigA.o (by assumption)) ?_
      refine z_i2l X dX2_readFigures_56 (by omega) ?_
      rw [h2]
      refine z_lmul X dX2_readFigures_57 ?_
      refine z_aload_n X dX2_readFigures_58 rfl ?_
      refine z_getI X dX2_readFigures_59 f_X2_97 rfl (by first | assumption | exact zbigA.o (by assumption)) ?_
      refine z_i2l X dX2_readFigures_62 (by omega) ?_
      rw [h2]
      refine z_lmul X dX2_readFigures_63 ?_
      refine z_ldc2 X dX2_readFigures_64 q_X2_100 (1073741824) (by decide) ?_
      refine z_lcmp_le X dX2_readFigures_67 dX2_readFigures_68 74 (by decide) (by omega) (by omega) (fun h67 => ?_) (fun h67 => ?_)
      · refine z_iload X dX2_readFigures_74 rfl ?_
        refine z_aload_n X dX2_readFigures_76 rfl ?_
        refine z_getI X dX2_readFigures_77 f_X2_97 rfl (by first | assumption | exact zbigA.o (by assumption)) ?_
        rw [h2]
        refine z_imul X dX2_readFigures_80 ?_
        refine z_istore X dX2_readFigures_81 (fun y => [_, _, _, _, _, _, some (vi y), _, _]) (by decide) (fun _ => rfl) (fun w2 hw2 => ?_)
        refine z_iinc X dX2_readFigures_83 rfl (fun y => [_, _, _, _, _, _, _, some (vi y), _]) (fun _ => rfl) (fun x7_83 hx7_83 => ?_)
        obtain rfl : x7_83 = ((s + 1 + (j + 1) : Nat) : Int) := by omega
        obtain rfl : w2 = b ^ (j + 1) := by rw [Int.pow_succ]; exact hw2
        refine z_goto X dX2_readFigures_86 40 (by decide) ?_
        exact ih (j + 1) (by omega) (by rw [Int.pow_succ, Int.pow_succ]; omega)
      · refine z_goto X dX2_readFigures_71 89 (by decide) ?_
        exact K j _ (by omega) hbj'
/-- behind which figures are the same in both: s of n -/
def zsame (da db : Nat → Int) (n s : Nat) : Prop := s ≤ n ∧ (∀ k, k < s → da k = db k) ∧ (s = n ∨ da s ≠ db s)
theorem zsame_unique {da db : Nat → Int} {n s t : Nat} (h : zsame da db n s) (g : zsame da db n t) : s = t := by
  obtain ⟨h1, h2, h3⟩ := h
  obtain ⟨g1, g2, g3⟩ := g
  rcases Nat.lt_trichotomy s t with q | q | q
  · rcases h3 with h3 | h3
    · omega
    · exact absurd (g2 s q) h3
  · exact q
  · rcases g3 with g3 | g3
    · omega
    · exact absurd (h2 t q) g3
theorem zl_figures {E : zCx} (X : zOK E cX2_readFigures RX2 9 none k_X2_readFigures.2.2.2.2) {A : zA} {m0 : zM} {e x y f t n : Nat} {l g w b : Int} (hA : zencA A e) (hxy : (x = e + 1 ∧ y = e + 3) ∨ (x = e + 3 ∧ y = e + 1)) (hFA : zfigA A f) (hf : f + 2 ≤ e ∨ e + 9 ≤ f) (hw : 0 < w) (hl : 0 ≤ l ∧ l < w) (hg : 0 ≤ g ∧ g < w) (ht : t + 1 ≤ 660) (hw1 : w < 1073741824 ^ t) (hw2 : 1073741824 ^ t ≤ 2 * w) (hb : 2 ≤ b ∧ b ≤ 36) (hn : n ≤ 100) {P : zM → Prop} (hQ : zRet E (zpv A P) 0 0)
    (hP : ∀ (m' : zM) (s : Nat), m' f 6 = (s : Int) → zsame (zfg l w b) (zfg g w b) n s → (∀ k, k < s → m' (f + 1) k = zfg l w b k) → (∀ a j, (a < e ∨ e + 9 ≤ a) → (a = f ∧ j = 6) ∨ a = f + 1 ∨ m' a j = m0 a j) → P m') :
    ∀ (N s : Nat) (m : zM) (step : Int) (l6 l7 l8 : Option Value), n - s < N → s ≤ n → 0 ≤ step → step ≤ s → m f 6 = (s : Int) → m f 2 = b → m f 3 = (n : Int) → zbi m x 660 (l * b ^ s % w) → zbi m y 660 (g * b ^ s % w) → zbi m (e + 5) 660 w → (∀ k, k < s → m (f + 1) k = zfg l w b k ∧ zfg l w b k = zfg g w b k) → (∀ a j, (a < e ∨ e + 9 ≤ a) → (a = f ∧ j = 6) ∨ a = f + 1 ∨ m a j = m0 a j) → zW E (0, 0) A m 6 [some (vr e), some (vr x), some (vr y), some (vr f), some (vi 1), some (vi step), l6, l7, l8] [] := by
  obtain ⟨hA1, ⟨hA2, hA3, hA4, hA5⟩, hb1, hb2, hb3, hb4⟩ := id hA
  obtain ⟨hF1, hF2, hF3⟩ := id hFA
  have hX : zbigA A x 660 := by rcases hxy with h | h <;> (rw [h.1]; assumption)
  have hY : zbigA A y 660 := by rcases hxy with h | h <;> (rw [h.2]; assumption)
  intro N
  induction N with
  | zero => intro s m step l6 l7 l8 h; exact absurd h (by omega)
  | succ N ih =>
    intro s m step l6 l7 l8 hN hs hst0 hst h6 h2 h3 hx hy hu hd hF
    refine z_iload X dX2_readFigures_6 rfl ?_
    refine z_if_eq X dX2_readFigures_8 141 (by decide) (by omega) (fun h8 => ?_) (fun h8 => ?_)
    · exact absurd h8 (by omega)
    · refine z_aload_n X dX2_readFigures_11 rfl ?_
      refine z_getI X dX2_readFigures_12 f_X2_60 rfl (by first | assumption | exact zbigA.o (by assumption)) ?_
      refine z_aload_n X dX2_readFigures_15 rfl ?_
      refine z_getI X dX2_readFigures_16 f_X2_94 rfl (by first | assumption | exact zbigA.o (by assumption)) ?_
      refine z_icmp_ge X dX2_readFigures_19 141 (by decide) (by omega) (by omega) (fun h19 => ?_) (fun h19 => ?_)
      · refine z_return (st := []) X rfl hQ dX2_readFigures_141 ⟨rfl, rfl, ?_⟩
        exact hP m s h6 ⟨hs, fun k hk => (hd k hk).2, Or.inl (by omega)⟩ (fun k hk => (hd k hk).1) hF
      · refine z_iload X dX2_readFigures_22 rfl ?_
        refine z_bipush X dX2_readFigures_24 (by decide) ?_
        refine z_icmp_ge X dX2_readFigures_26 141 (by decide) (by omega) (by omega) (fun h26 => ?_) (fun h26 => ?_)
        · refine z_return (st := []) X rfl hQ dX2_readFigures_141 ⟨rfl, rfl, ?_⟩
          exact absurd h26 (by omega)
        · refine z_iconst X dX2_readFigures_29 ?_
          refine z_istore X dX2_readFigures_30 (fun y => [_, _, _, _, _, _, some (vi y), _, _]) (by decide) (fun _ => rfl) (fun x6_30 hx6_30 => ?_)
          subst hx6_30
          refine z_aload_n X dX2_readFigures_32 rfl ?_
          refine z_getI X dX2_readFigures_33 f_X2_60 rfl (by first | assumption | exact zbigA.o (by assumption)) ?_
          refine z_iconst X dX2_readFigures_36 ?_
          refine z_iadd X dX2_readFigures_37 ?_
          refine z_istore X dX2_readFigures_38 (fun y => [_, _, _, _, _, _, _, some (vi y), _]) (by decide) (fun _ => rfl) (fun i0 hi0 => ?_)
          obtain rfl : i0 = ((s + 1 + 0 : Nat) : Int) := by omega
          have e0 : b ^ 0 = 1 := Int.pow_zero b
          rw [show vi 1 = vi (b ^ 0) by rw [e0]]
          refine zl_weight X hFA hb h2 h3 h6 hn (fun j i hj hbj => ?_) (n - s - 1) 0 (by omega) (by rw [Int.pow_succ, Int.pow_zero]; omega)
          have hpj := zpow_pos (by omega : 0 < b) j
          have hpj1 := zpow_pos (by omega : 0 < b) (j + 1)
          have ebj : b ^ j * b = b ^ (j + 1) := (Int.pow_succ _ _).symm
          have rl : 0 ≤ l * b ^ s % w ∧ l * b ^ s % w < w := ⟨Int.emod_nonneg _ (by omega), Int.emod_lt_of_pos _ hw⟩
          have rg : 0 ≤ g * b ^ s % w ∧ g * b ^ s % w < w := ⟨Int.emod_nonneg _ (by omega), Int.emod_lt_of_pos _ hw⟩
          have dl := zdiv_lt rl hpj1
          have dg := zdiv_lt rg hpj1
          have sl := zstepq (a := l) (X := b ^ s) (Y := b ^ (j + 1)) hw
          have sg := zstepq (a := g) (X := b ^ s) (Y := b ^ (j + 1)) hw
          rw [← Int.pow_add] at sl sg
          have c6 : zfd m f 6 (s : Int) := h6
          have c2 : zfd m f 2 b := h2
          have c3 : zfd m f 3 (n : Int) := h3
          have hG : zout m m e e := fun _ _ _ _ => rfl
          refine z_aload_n X dX2_readFigures_89 rfl ?_
          refine z_iload X dX2_readFigures_90 rfl ?_
          refine z_aload_n X dX2_readFigures_92 rfl ?_
          refine z_getI X dX2_readFigures_93 f_X2_97 rfl (by first | assumption | exact zbigA.o (by assumption)) ?_
          rw [h2]
          refine z_imul X dX2_readFigures_96 ?_
          rw [ebj]
          refine z_aload_n X dX2_readFigures_97 rfl ?_
          refine z_getR X dX2_readFigures_98 f_X2_23 rfl (by first | assumption | exact zbigA.o (by assumption)) (by assumption) ?_
          refine z_callVi X (As := [_, _]) dX2_readFigures_101 m_X0_takeQuotient i_X0_takeQuotient l_X2_90 (c_X0_takeQuotient (zg E) hX hb3 (by omega) hx hu (by omega) rl.1 rl.2 hw1 hw2 ht) (by first | assumption | exact zbigA.o (by assumption)) rfl rfl rfl (Nat.le_of_ble_eq_true rfl) ⟨Nat.le_of_ble_eq_true rfl, Nat.le_of_ble_eq_true rfl⟩ ⟨Nat.le_of_ble_eq_true rfl, Nat.le_of_ble_eq_true rfl⟩ ⟨rfl, rfl⟩ (fun q1 m1 hm => ?_)
          obtain ⟨rfl, hx, hk⟩ := hm
          rw [sl.2] at hx
          have hy := hy.k hk (by omega)
          have hu := hu.k hk (by omega)
          have hG := hG.k hk (by omega)
          have c6 := c6.k hk (by omega)
          have c2 := c2.k hk (by omega)
          have c3 := c3.k hk (by omega)
          have c2' : m1 f 2 = b := c2
          refine z_istore X dX2_readFigures_104 (fun y => [_, _, _, _, _, _, _, some (vi y), _]) (by decide) (fun _ => rfl) (fun ql hql => ?_)
          refine z_aload_n X dX2_readFigures_106 rfl ?_
          refine z_iload X dX2_readFigures_107 rfl ?_
          refine z_aload_n X dX2_readFigures_109 rfl ?_
          refine z_getI X dX2_readFigures_110 f_X2_97 rfl (by first | assumption | exact zbigA.o (by assumption)) ?_
          rw [c2']
          refine z_imul X dX2_readFigures_113 ?_
          rw [ebj]
          refine z_aload_n X dX2_readFigures_114 rfl ?_
          refine z_getR X dX2_readFigures_115 f_X2_23 rfl (by first | assumption | exact zbigA.o (by assumption)) (by assumption) ?_
          refine z_callVi X (As := [_, _]) dX2_readFigures_118 m_X0_takeQuotient i_X0_takeQuotient l_X2_90 (c_X0_takeQuotient (zg E) hY hb3 (by omega) hy hu (by omega) rg.1 rg.2 hw1 hw2 ht) (by first | assumption | exact zbigA.o (by assumption)) rfl rfl rfl (Nat.le_of_ble_eq_true rfl) ⟨Nat.le_of_ble_eq_true rfl, Nat.le_of_ble_eq_true rfl⟩ ⟨Nat.le_of_ble_eq_true rfl, Nat.le_of_ble_eq_true rfl⟩ ⟨rfl, rfl⟩ (fun q2 m2 hm => ?_)
          obtain ⟨rfl, hy, hk⟩ := hm
          rw [sg.2] at hy
          have hx := hx.k hk (by omega)
          have hu := hu.k hk (by omega)
          have hG := hG.k hk (by omega)
          have c6 := c6.k hk (by omega)
          have c2 := c2.k hk (by omega)
          have c3 := c3.k hk (by omega)
          refine z_istore X dX2_readFigures_121 (fun y => [_, _, _, _, _, _, _, _, some (vi y)]) (by decide) (fun _ => rfl) (fun qg hqg => ?_)
          refine z_aload_n X dX2_readFigures_123 rfl ?_
          refine z_iload X dX2_readFigures_124 rfl ?_
          refine z_iload X dX2_readFigures_126 rfl ?_
          refine z_iload X dX2_readFigures_128 rfl ?_
          refine z_callVi X (As := [_, _, _]) dX2_readFigures_130 m_X3_take i_X3_take l_X2_102 (c_X3_take (zg E) hFA hb c2 c6 (t := j + 1) (by omega) (by omega) hbj (by omega) (by omega) rfl) (by first | assumption | exact zbigA.o (by assumption)) rfl rfl rfl (Nat.le_of_ble_eq_true rfl) ⟨Nat.le_of_ble_eq_true rfl, Nat.le_of_ble_eq_true rfl⟩ ⟨Nat.le_of_ble_eq_true rfl, Nat.le_of_ble_eq_true rfl⟩ ⟨rfl, rfl⟩ (fun r m3 hm => ?_)
          obtain ⟨g1, g2, j', hj', g3, g4, g5, g6⟩ := hm
          have ed : ∀ i, i < j + 1 → zdt b ql (j + 1) i = zfg l w b (s + i) := fun i hi => by rw [hql]; exact zdig_eq hw hb.1 hi
          have eg : ∀ i, i < j + 1 → zdt b qg (j + 1) i = zfg g w b (s + i) := fun i hi => by rw [hqg]; exact zdig_eq hw hb.1 hi
          have hd' : ∀ k, k < s + j' → m3 (f + 1) k = zfg l w b k ∧ zfg l w b k = zfg g w b k := by
            intro k hk
            by_cases hks : k < s
            · rw [g2 k hks, hG _ _ (by omega) (by omega)]
              exact hd k hks
            · obtain ⟨i, rfl⟩ := Nat.exists_eq_add_of_le (by omega : s ≤ k)
              rw [g5 i (by omega), ed i (by omega)]
              refine ⟨rfl, ?_⟩
              rw [← ed i (by omega), ← eg i (by omega)]
              exact g4 i (by omega)
          have hF' : ∀ a j, (a < e ∨ e + 9 ≤ a) → (a = f ∧ j = 6) ∨ a = f + 1 ∨ m3 a j = m0 a j := fun a j ha => by
            have h1 := g1 a j
            have h2 := hG a j ha ha
            have h3 := hF a j ha
            omega
          refine z_istore X dX2_readFigures_133 (fun y => [_, _, _, _, some (vi y), _, _, _, _]) (by decide) (fun _ => rfl) (fun x4_133 hx4_133 => ?_)
          refine z_iinc X dX2_readFigures_135 rfl (fun y => [_, _, _, _, _, some (vi y), _, _, _]) (fun _ => rfl) (fun x5_135 hx5_135 => ?_)
          refine z_goto X dX2_readFigures_138 6 (by decide) ?_
          rcases g6 with ⟨rfl, rfl⟩ | ⟨g7, rfl, g8⟩
          · subst hx4_133
            have kk : ∀ a N v, zbi m2 a N v → (a = x ∨ a = y ∨ a = e + 5) → zbi m3 a N v := fun a N v h ha => h.fr (fun j => by have := g1 a j; omega) (fun j => by have := g1 (a + 1) j; omega)
            have e2 := g1 f 2
            have e3 := g1 f 3
            have c2' : m2 f 2 = b := c2
            have c3' : m2 f 3 = (n : Int) := c3
            exact ih (s + (j + 1)) m3 _ _ _ _ (by omega) (by omega) (by omega) (by omega) g3 (by omega) (by omega) (kk _ _ _ hx (Or.inl rfl)) (kk _ _ _ hy (Or.inr (Or.inl rfl))) (kk _ _ _ hu (Or.inr (Or.inr rfl))) hd' hF'
          · subst hx4_133
            refine z_iload X dX2_readFigures_6 rfl ?_
            refine z_if_eq X dX2_readFigures_8 141 (by decide) (by omega) (fun h8 => ?_) (fun h8 => ?_)
            · refine z_return (st := []) X rfl hQ dX2_readFigures_141 ⟨rfl, rfl, ?_⟩
              refine hP m3 (s + j') g3 ⟨by omega, fun k hk => (hd' k hk).2, Or.inr ?_⟩ (fun k hk => (hd' k hk).1) hF'
              rw [← ed j' (by omega), ← eg j' (by omega)]
              exact g8
            · exact absurd rfl h8
theorem c_X2_readFigures (G : zG) {A : zA} {m : zM} {e x y f t n : Nat} {l g w b : Int} (hA : zencA A e) (hxy : (x = e + 1 ∧ y = e + 3) ∨ (x = e + 3 ∧ y = e + 1)) (hFA : zfigA A f) (hf : f + 2 ≤ e ∨ e + 9 ≤ f) (hw : 0 < w) (hl : 0 ≤ l ∧ l < w) (hg : 0 ≤ g ∧ g < w) (ht : t + 1 ≤ 660) (hw1 : w < 1073741824 ^ t) (hw2 : 1073741824 ^ t ≤ 2 * w) (hb : 2 ≤ b ∧ b ≤ 36) (hn : n ≤ 100) (h6 : m f 6 = 0) (h2 : m f 2 = b) (h3 : m f 3 = (n : Int)) (hx : zbi m x 660 l) (hy : zbi m y 660 g) (hu : zbi m (e + 5) 660 w) :
    zMet G k_X2_readFigures [vr e, vr x, vr y, vr f] A m (zpv A (fun m' => ∃ s : Nat, m' f 6 = (s : Int) ∧ zsame (zfg l w b) (zfg g w b) n s ∧ (∀ k, k < s → m' (f + 1) k = zfg l w b k) ∧ ∀ a j, (a < e ∨ e + 9 ≤ a) → (a = f ∧ j = 6) ∨ a = f + 1 ∨ m' a j = m a j)) := by
  refine zMet.of RX2 rfl (by decide +kernel) (Nat.le_of_ble_eq_true rfl) [some (vr e), some (vr x), some (vr y), some (vr f), none, none, none, none, none] rfl (fun E hG X hQ hNm => ?_)
  subst hG
  refine z_iconst X dX2_readFigures_0 ?_
  refine z_istore X dX2_readFigures_1 (fun y => [_, _, _, _, some (vi y), _, _, _, _]) (by decide) (fun _ => rfl) (fun x4_1 hx4_1 => ?_)
  subst hx4_1
  refine z_iconst X dX2_readFigures_3 ?_
  refine z_istore X dX2_readFigures_4 (fun y => [_, _, _, _, _, some (vi y), _, _, _]) (by decide) (fun _ => rfl) (fun x5_4 hx5_4 => ?_)
  subst hx5_4
  refine zl_figures X hA hxy hFA hf hw hl hg ht hw1 hw2 hb hn hQ (fun m' s g1 g2 g3 g4 => ⟨s, g1, g2, g3, g4⟩) (n + 1) 0 m 0 none none none (by omega) (by omega) (by omega) (by omega) h6 h2 h3 ?_ ?_ hu (fun k hk => absurd hk (by omega)) (fun a j _ => Or.inr (Or.inr rfl))
  · rw [Int.pow_zero, Int.mul_one, Int.emod_eq_of_lt hl.1 hl.2]; exact hx
  · rw [Int.pow_zero, Int.mul_one, Int.emod_eq_of_lt hg.1 hg.2]; exact hy

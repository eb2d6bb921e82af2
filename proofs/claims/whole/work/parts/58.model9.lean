/-! The model: more, join, empty, span -/
/-- but for some slots and the end of a drawer nothing is changed -/
def zfrD (q d : Nat) (m m' : zM) : Prop := (∀ a j, (a < q + 1 ∨ q + 3 < a) → ¬ (a = q + 9 ∧ j = d) → m' a j = m a j) ∧ ∀ y, ¬ ((4 * d ≤ y ∧ y < 4 * d + 4) ∨ y = 55 ∨ y = 59) → zSq q y m m'
theorem zfrD.k {q d : Nat} {m m1 m2 : zM} (h : zfrD q d m m1) (hf : zsP q (fun x => (4 * d ≤ x ∧ x < 4 * d + 4) ∨ x = 55 ∨ x = 59) m1 m2) (_ : (0 : Nat) = 0) : zfrD q d m m2 := ⟨fun a j h1 h2 => (hf.1 a j h1).trans (h.1 a j h1 h2), fun y hy => (h.2 y hy).t (hf.2 y hy)⟩
theorem zfrD.w {q d : Nat} {m m1 : zM} {v : Int} (h : zfrD q d m m1) : zfrD q d m (zms m1 (q + 9) d v) := ⟨fun a j h1 h2 => (zms_ne _ _ _ _ h2).trans (h.1 a j h1 h2), fun y hy => (h.2 y hy).t (zSq_nq (by omega))⟩
theorem zsp4.w {q a p k : Nat} {m : zM} {z : zq4} {y : Int} (h : zsp4 m q a z) (hp : p < q + 1 ∨ q + 3 < p) : zsp4 (zms m p k y) q a z := ⟨h.1.w hp, h.2.1.w hp, h.2.2.1.w hp, h.2.2.2.w hp⟩
theorem zmsu.w {q s p k : Nat} {m : zM} {c : Nat → Nat → Int} {u v y : Int} (h : zmsu m q s c u v) (hp : p < q + 4 ∨ q + 7 ≤ p) : zmsu (zms m p k y) q s c u v := h.e (fun a j _ _ => zms_nq _ _ _ _ _ (by omega))
theorem zl8_more {E : zCx} {rm : Room} {A : zA} (hroom : rm = k_X8_more.2.2.2.2) (X : zOK E cX8_more RX8 7 (some .int) rm) {q d s n0 k0 e : Nat} {nv x4 x5 : Int} {c : Nat → Nat → Int} {u v : Int} {z : zq4} {m0 : zM} (hA : zmodA A q) (hd : d < 8) (hs : s < 6) (hc : zcoef c) (he : e ≤ 100) (hz : zok n0 z) (hn : n0 + (e - k0) ≤ 100)
    (K : ∀ m', zsp4 m' q (4 * d) (zgo c k0 z (e - k0)) → m' (q + 9) d = (e : Int) → zfrD q d m0 m' → zW E (0, 0) A m' 168 [some (vr q), some (vi (d : Int)), some (vi nv), some (vi (s : Int)), some (vi x4), some (vi x5), some (vi (e : Int))] []) :
    ∀ (r t : Nat) (m : zM), k0 + t + r = e → zmsu m q s c u v → zsp4 m q (4 * d) (zgo c k0 z t) → m (q + 9) d = ((k0 + t : Nat) : Int) → zfrD q d m0 m → zW E (0, 0) A m 130 [some (vr q), some (vi (d : Int)), some (vi nv), some (vi (s : Int)), some (vi x4), some (vi x5), some (vi (e : Int))] [] := by
  subst hroom
  obtain ⟨⟨hO0, f0, f1, f2, f3, f4, f5, f6, f7, f8, f9, f10, f11, f12, f16, f24, f25⟩, ⟨g1, g2, g3⟩, ⟨g4, g5, g6, g7, g8, g9⟩, ⟨g10, g11, g12, g13⟩, g14, g15, g16⟩ := id hA
  intro r
  induction r with
  | zero =>
    intro t m ht hm h4 h9 hF
    obtain rfl : e = k0 + t := by omega
    rw [Nat.add_sub_cancel_left] at K
    refine z_aload_n X dX8_more_130 rfl ?_
    refine z_getR X dX8_more_131 f_X8_36 rfl (by first | assumption | exact zbigA.o (by assumption)) (by assumption) ?_
    refine z_iload_n X dX8_more_134 rfl ?_
    refine z_iald X (d) dX8_more_135 (by omega) (by assumption) (by omega) (by omega) ?_
    refine z_iload X dX8_more_136 rfl ?_
    refine z_icmp_ge X dX8_more_138 168 (by decide) (by omega) (by omega) (fun h138 => ?_) (fun h138 => ?_)
    · exact K m h4 h9 hF
    · exact absurd h138 (by omega)
  | succ r ih =>
    intro t m ht hm h4 h9 hF
    have hzz := zok_go hc hz (k := k0) (d := t) (by omega)
    refine z_aload_n X dX8_more_130 rfl ?_
    refine z_getR X dX8_more_131 f_X8_36 rfl (by first | assumption | exact zbigA.o (by assumption)) (by assumption) ?_
    refine z_iload_n X dX8_more_134 rfl ?_
    refine z_iald X (d) dX8_more_135 (by omega) (by assumption) (by omega) (by omega) ?_
    refine z_iload X dX8_more_136 rfl ?_
    refine z_icmp_ge X dX8_more_138 168 (by decide) (by omega) (by omega) (fun h138 => ?_) (fun h138 => ?_)
    · exact absurd h138 (by omega)
    · refine z_aload_n X dX8_more_141 rfl ?_
      refine z_iconst X dX8_more_142 ?_
      refine z_iload_n X dX8_more_143 rfl ?_
      refine z_imul X dX8_more_144 ?_
      refine z_iload_n X dX8_more_145 rfl ?_
      refine z_aload_n X dX8_more_146 rfl ?_
      refine z_getR X dX8_more_147 f_X8_36 rfl (by first | assumption | exact zbigA.o (by assumption)) (by assumption) ?_
      refine z_iload_n X dX8_more_150 rfl ?_
      refine z_iald X (d) dX8_more_151 (by omega) (by assumption) (by omega) (by omega) ?_
      refine z_callVv X (As := [_, _, _]) dX8_more_152 m_X8_go i_X8_go l_X8_156 (c_X8_go (zg E) (a := 4 * d) (k := k0 + t) hA (by omega) (by omega) rfl hs h9 (by omega) hm hc hzz (by omega) h4) (by first | assumption | exact zbigA.o (by assumption)) rfl rfl rfl (Nat.le_of_ble_eq_true rfl) ⟨Nat.le_of_ble_eq_true rfl, Nat.le_of_ble_eq_true rfl⟩ ⟨Nat.le_of_ble_eq_true rfl, Nat.le_of_ble_eq_true rfl⟩ ⟨rfl, rfl⟩ (fun m1 hm1 => ?_)
      obtain ⟨h4, hf⟩ := hm1
      have h9 : m1 (q + 9) d = ((k0 + t : Nat) : Int) := (hf.1 _ _ (by omega)).trans h9
      have hm := hm.k hf (by omega)
      have hF := hF.k hf (by omega)
      refine z_aload_n X dX8_more_155 rfl ?_
      refine z_getR X dX8_more_156 f_X8_36 rfl (by first | assumption | exact zbigA.o (by assumption)) (by assumption) ?_
      refine z_iload_n X dX8_more_159 rfl ?_
      refine z_dup2 X dX8_more_160 rfl rfl ?_
      refine z_iald X (d) dX8_more_161 (by omega) (by assumption) (by omega) (by omega) ?_
      refine z_iconst X dX8_more_162 ?_
      refine z_iadd X dX8_more_163 ?_
      refine z_iast X (d) dX8_more_164 (by omega) (by assumption) (by omega) (by omega) ?_
      refine z_goto X dX8_more_165 130 (by decide) ?_
      refine ih (t + 1) _ (by omega) (hm.w (by omega)) (h4.w (by omega)) ?_ hF.w
      rw [zms_same]
      omega
theorem c_X8_more (G : zG) {A : zA} {m : zM} {q : Nat} {σ : zSt} {d n : Int} (hA : zmodA A q) (hm : zMR q m σ) (ho : zStok σ) (hd : zi32 d) (hn : zi32 n) : zMet G k_X8_more [vr q, vi d, vi n] A m (zpi A (fun r m' => zMR q m' (sp_more σ d n).2 ∧ zmm q m m' ∧ r = (sp_more σ d n).1)) := by
  obtain ⟨⟨hO0, f0, f1, f2, f3, f4, f5, f6, f7, f8, f9, f10, f11, f12, f16, f24, f25⟩, ⟨g1, g2, g3⟩, ⟨g4, g5, g6, g7, g8, g9⟩, ⟨g10, g11, g12, g13⟩, g14, g15, g16⟩ := id hA
  unfold zi32 at hd hn
  by_cases hd8 : ¬ zin d 0 7
  · skip
    refine zMet.of RX8 rfl (by decide +kernel) (Nat.le_of_ble_eq_true rfl) [some (vr q), some (vi d), some (vi n), none, none, none, none] rfl (fun E hG X hQ hNm => ?_)
    subst hG
    refine z_iload_n X dX8_more_0 rfl ?_
    refine z_callSi X (As := [_]) dX8_more_1 m_X8_isDrawer s_X8_isDrawer l_X8_150 (c_X8_isDrawer (zg E) hd) rfl rfl (Nat.le_of_ble_eq_true rfl) ⟨Nat.le_of_ble_eq_true rfl, Nat.le_of_ble_eq_true rfl⟩ ⟨Nat.le_of_ble_eq_true rfl, Nat.le_of_ble_eq_true rfl⟩ ⟨rfl, rfl⟩ (fun r1 m1 hm1 => ?_)
    obtain ⟨rfl, hr1⟩ := hm1
    refine z_if_ne X dX8_more_4 9 (by decide) (by omega) (fun h4 => ?_) (fun h4 => ?_)
    · exact absurd h4 (by omega)
    · refine z_iconst X dX8_more_7 ?_
      refine z_ireturn (st := []) X rfl hQ dX8_more_8 ⟨rfl, _, rfl, ?_⟩
      unfold sp_more
      rw [if_pos (by omega)]
      exact ⟨hm, zmm.r, rfl⟩
  obtain ⟨k, rfl⟩ : ∃ k : Nat, d = (k : Int) := ⟨d.toNat, by omega⟩
  have hdr := hm.2.1 k (by omega)
  have h7b : (m (q + 7) k = -6 ∧ sD σ k = none) ∨ ((0 ≤ m (q + 7) k ∧ m (q + 7) k < 6) ∧ (0 ≤ m (q + 8) k ∧ m (q + 8) k ≤ 100) ∧ (0 ≤ m (q + 9) k ∧ m (q + 9) k ≤ 100)) := by
    rcases hdr.h7 with ⟨h, e⟩ | ⟨y, e, h1, h2, h3, _⟩
    · exact Or.inl ⟨h, e⟩
    · obtain ⟨o1, o2, o3, o4⟩ := ho.2.1 k y (by omega) e
      exact Or.inr (by omega)
  have out : (n < 0 ∨ 100 < n ∨ (m (q + 7) k ≠ -6 ∧ 100 < m (q + 9) k + n)) → zMR q m (sp_more σ (k : Int) n).2 ∧ zmm q m m ∧ -2 = (sp_more σ (k : Int) n).1 := fun h => by
    unfold sp_more
    rw [if_neg (by omega)]
    by_cases h0 : zin n 0 100
    · rw [if_neg (by omega), Int.toNat_natCast]
      rcases hdr.h7 with ⟨g, _⟩ | ⟨y, e, h1, h2, h3, _⟩
      · omega
      · rw [e]
        simp only []
        rw [if_pos (by omega)]
        exact ⟨hm, zmm.r, rfl⟩
    · rw [if_pos h0]
      exact ⟨hm, zmm.r, rfl⟩
  refine zMet.of RX8 rfl (by decide +kernel) (Nat.le_of_ble_eq_true rfl) [some (vr q), some (vi (k : Int)), some (vi n), none, none, none, none] rfl (fun E hG X hQ hNm => ?_)
  subst hG
  refine z_iload_n X dX8_more_0 rfl ?_
  refine z_callSi X (As := [_]) dX8_more_1 m_X8_isDrawer s_X8_isDrawer l_X8_150 (c_X8_isDrawer (zg E) hd) rfl rfl (Nat.le_of_ble_eq_true rfl) ⟨Nat.le_of_ble_eq_true rfl, Nat.le_of_ble_eq_true rfl⟩ ⟨Nat.le_of_ble_eq_true rfl, Nat.le_of_ble_eq_true rfl⟩ ⟨rfl, rfl⟩ (fun r1 m1 hm1 => ?_)
  obtain ⟨rfl, hr1⟩ := hm1
  refine z_if_ne X dX8_more_4 9 (by decide) (by omega) (fun h4 => ?_) (fun h4 => ?_)
  · refine z_iload_n X dX8_more_9 rfl ?_
    refine z_i2l X dX8_more_10 (by omega) ?_
    refine z_lconst X dX8_more_11 0 rfl ?_
    refine z_ldc2 X dX8_more_12 q_X8_127 (100) (by decide) ?_
    refine z_callSi X (As := [_, _, _]) dX8_more_15 m_X8_in s_X8_in l_X8_86 (c_X8_in (zg E) (by omega) (by omega) (by omega)) rfl rfl (Nat.le_of_ble_eq_true rfl) ⟨Nat.le_of_ble_eq_true rfl, Nat.le_of_ble_eq_true rfl⟩ ⟨Nat.le_of_ble_eq_true rfl, Nat.le_of_ble_eq_true rfl⟩ ⟨rfl, rfl⟩ (fun r2 m1 hm1 => ?_)
    obtain ⟨rfl, hr2⟩ := hm1
    refine z_if_eq X dX8_more_18 45 (by decide) (by omega) (fun h18 => ?_) (fun h18 => ?_)
    · refine z_bipush X dX8_more_45 (by decide) ?_
      refine z_ireturn (st := []) X rfl hQ dX8_more_47 ⟨rfl, _, rfl, ?_⟩
      exact out (by omega)
    · refine z_aload_n X dX8_more_21 rfl ?_
      refine z_getR X dX8_more_22 f_X8_30 rfl (by first | assumption | exact zbigA.o (by assumption)) (by assumption) ?_
      refine z_iload_n X dX8_more_25 rfl ?_
      refine z_iald X (k) dX8_more_26 (by omega) (by assumption) (by omega) (by omega) ?_
      refine z_bipush X dX8_more_27 (by decide) ?_
      refine z_icmp_eq X dX8_more_29 48 (by decide) (by omega) (by omega) (fun h29 => ?_) (fun h29 => ?_)
      · refine z_aload_n X dX8_more_48 rfl ?_
        refine z_getR X dX8_more_49 f_X8_30 rfl (by first | assumption | exact zbigA.o (by assumption)) (by assumption) ?_
        refine z_iload_n X dX8_more_52 rfl ?_
        refine z_iald X (k) dX8_more_53 (by omega) (by assumption) (by omega) (by omega) ?_
        refine z_bipush X dX8_more_54 (by decide) ?_
        refine z_icmp_ne X dX8_more_56 62 (by decide) (by omega) (by omega) (fun h56 => ?_) (fun h56 => ?_)
        · rcases hdr.h7 with ⟨h7, _⟩ | ⟨x, e0, x7, x8, x9, xb⟩
          · exact absurd h7 (by omega)
          obtain ⟨o1, o2, o3, o4⟩ := ho.2.1 k x (by omega) e0
          obtain ⟨nn, rfl⟩ : ∃ nn : Nat, n = (nn : Int) := ⟨n.toNat, by omega⟩
          refine z_aload_n X dX8_more_62 rfl ?_
          refine z_getR X dX8_more_63 f_X8_30 rfl (by first | assumption | exact zbigA.o (by assumption)) (by assumption) ?_
          refine z_iload_n X dX8_more_66 rfl ?_
          refine z_iald X (k) dX8_more_67 (by omega) (by assumption) (by omega) (by omega) ?_
          refine z_istore_n X dX8_more_68 (fun y => [_, _, _, some (vi y), _, _, _]) (by decide) (fun _ => rfl) (fun s hsx => ?_)
          obtain rfl : s = (x.1 : Int) := by omega
          refine z_aload_n X dX8_more_69 rfl ?_
          refine z_getR X dX8_more_70 f_X8_36 rfl (by first | assumption | exact zbigA.o (by assumption)) (by assumption) ?_
          refine z_iload_n X dX8_more_73 rfl ?_
          refine z_iald X (k) dX8_more_74 (by omega) (by assumption) (by omega) (by omega) ?_
          refine z_iload_n X dX8_more_75 rfl ?_
          refine z_iadd X dX8_more_76 ?_
          refine z_istore X dX8_more_77 (fun y => [_, _, _, _, some (vi y), _, _]) (by decide) (fun _ => rfl) (fun e hex => ?_)
          obtain rfl : e = ((x.2.2.1 + nn : Nat) : Int) := by omega
          refine z_aload_n X dX8_more_79 rfl ?_
          refine z_iload_n X dX8_more_80 rfl ?_
          refine z_aload_n X dX8_more_81 rfl ?_
          refine z_getR X dX8_more_82 f_X8_36 rfl (by first | assumption | exact zbigA.o (by assumption)) (by assumption) ?_
          refine z_iload_n X dX8_more_85 rfl ?_
          refine z_iald X (k) dX8_more_86 (by omega) (by assumption) (by omega) (by omega) ?_
          refine z_iload X dX8_more_87 rfl ?_
          refine z_aload_n X dX8_more_89 rfl ?_
          refine z_getR X dX8_more_90 f_X8_36 rfl (by first | assumption | exact zbigA.o (by assumption)) (by assumption) ?_
          refine z_iload_n X dX8_more_93 rfl ?_
          refine z_iald X (k) dX8_more_94 (by omega) (by assumption) (by omega) (by omega) ?_
          refine z_aload_n X dX8_more_95 rfl ?_
          refine z_getR X dX8_more_96 f_X8_33 rfl (by first | assumption | exact zbigA.o (by assumption)) (by assumption) ?_
          refine z_iload_n X dX8_more_99 rfl ?_
          refine z_iald X (k) dX8_more_100 (by omega) (by assumption) (by omega) (by omega) ?_
          refine z_icmp_le X dX8_more_101 108 (by decide) (by omega) (by omega) (fun h101 => ?_) (fun h101 => ?_)
          · refine z_iconst X dX8_more_108 ?_
            refine z_callVi X (As := [_, _, _, _]) dX8_more_109 m_X8_fall i_X8_fall l_X8_129 (c_X8_fall (zg E) (s := x.1) hA o1 (hm.1 _ o1) (ho.1 _ o1).1 (ho.1 _ o1).2 x.2.1 x.2.2.1 (x.2.2.1 + nn) rfl (by omega) rfl (by omega) (by omega) (by omega)) (by first | assumption | exact zbigA.o (by assumption)) rfl rfl rfl (Nat.le_of_ble_eq_true rfl) ⟨Nat.le_of_ble_eq_true rfl, Nat.le_of_ble_eq_true rfl⟩ ⟨Nat.le_of_ble_eq_true rfl, Nat.le_of_ble_eq_true rfl⟩ ⟨rfl, rfl⟩ (fun r3 m1 hm3 => ?_)
            obtain ⟨rfl, hr⟩ := hm3
            rw [Nat.add_sub_cancel_left] at hr
            have hR := zff_bd (sC σ x.1) (sU σ x.1) (sV σ x.1) x.2.1 x.2.2.1 nn
            rw [← hr] at hR
            have hr' : zfl σ x.1 x.2.1 x.2.2.1 nn = r3 := hr.symm
            have sp : sp_more σ (k : Int) (nn : Int) = if 100 < (x.2.2.1 : Int) + (nn : Int) then (-2, σ) else if r3 = -6 then ((x.2.2.1 : Int) + (nn : Int), wD σ (zup (sD σ) k (some (x.1, x.2.1, x.2.2.1 + nn, zgo (sC σ x.1) x.2.2.1 x.2.2.2 nn)))) else (-100 - r3, wD σ (zup (sD σ) k (some (x.1, x.2.1, r3.toNat, zgo (sC σ x.1) x.2.2.1 x.2.2.2 (r3.toNat - x.2.2.1))))) := by
              unfold sp_more
              rw [if_neg (by omega), if_neg (by omega), Int.toNat_natCast, Int.toNat_natCast, e0]
              simp only []
              rw [hr']
            rw [if_neg (by omega)] at sp
            have fin : ∀ (m' : zM) (e : Nat), zsp4 m' q (4 * k) (zgo (sC σ x.1) x.2.2.1 x.2.2.2 (e - x.2.2.1)) → m' (q + 9) k = (e : Int) → zfrD q k m m' → zMR q m' (wD σ (zup (sD σ) k (some (x.1, x.2.1, e, zgo (sC σ x.1) x.2.2.1 x.2.2.2 (e - x.2.2.1))))) ∧ zmm q m m' := fun m' e g4 g9 gF => ⟨hm.dr (x := some _) (by omega) ⟨(gF.1 _ _ (by omega) (by omega)).trans x7, (gF.1 _ _ (by omega) (by omega)).trans x8, g9, g4⟩ (fun a j h1 h2 => gF.1 a j (by omega) (by omega)) (fun j hj => gF.1 q j (by omega) (by omega)) (fun y h1 h2 => gF.2 y (by omega)), fun a j ha => gF.1 a j (by omega) (by omega)⟩
            refine z_istore X dX8_more_112 (fun y => [_, _, _, _, _, some (vi y), _]) (by decide) (fun _ => rfl) (fun p hp => ?_)
            obtain rfl : p = r3 := by omega
            refine z_iload X dX8_more_114 rfl ?_
            refine z_bipush X dX8_more_116 (by decide) ?_
            refine z_icmp_ne X dX8_more_118 126 (by decide) (by omega) (by omega) (fun h118 => ?_) (fun h118 => ?_)
            · refine z_iload X dX8_more_126 rfl ?_
              refine z_istore X dX8_more_128 (fun y => [_, _, _, _, _, _, some (vi y)]) (by decide) (fun _ => rfl) (fun t ht => ?_)
              obtain ⟨e, rfl⟩ : ∃ e : Nat, t = (e : Int) := ⟨t.toNat, by omega⟩
              refine zl8_more rfl X (n0 := x.2.2.1 - x.2.1) (k0 := x.2.2.1) (z := x.2.2.2) hA (by omega) o1 (ho.1 _ o1).1 (by omega) o4 (by omega) (fun m2 g4 g9 gF => ?_) (e - x.2.2.1) 0 m (by omega) (hm.1 _ o1) xb (by omega) ⟨fun _ _ _ _ => rfl, fun _ _ => ⟨rfl, rfl, fun _ _ => rfl⟩⟩
              refine z_iload X dX8_more_168 rfl ?_
              refine z_bipush X dX8_more_170 (by decide) ?_
              refine z_icmp_ne X dX8_more_172 180 (by decide) (by omega) (by omega) (fun h172 => ?_) (fun h172 => ?_)
              · refine z_bipush X dX8_more_180 (by decide) ?_
                refine z_iload X dX8_more_182 rfl ?_
                refine z_isub X dX8_more_184 ?_
                refine z_ireturn (st := []) X rfl hQ dX8_more_185 ⟨rfl, _, rfl, ?_⟩
                obtain ⟨w1, w2⟩ := fin m2 e g4 g9 gF
                first
                  | (rw [sp, if_neg (by omega)]
                     obtain rfl : e = p.toNat := by omega
                     exact ⟨w1, w2, rfl⟩)
                  | (rw [sp, if_pos (by omega)]
                     obtain rfl : e = x.2.2.1 + nn := by omega
                     rw [Nat.add_sub_cancel_left] at w1
                     exact ⟨w1, w2, by show _ = (x.2.2.1 : Int) + (nn : Int); omega⟩)
                  | (exfalso; omega)
              · refine z_iload X dX8_more_175 rfl ?_
                refine z_goto X dX8_more_177 185 (by decide) ?_
                refine z_ireturn (st := []) X rfl hQ dX8_more_185 ⟨rfl, _, rfl, ?_⟩
                obtain ⟨w1, w2⟩ := fin m2 e g4 g9 gF
                first
                  | (rw [sp, if_neg (by omega)]
                     obtain rfl : e = p.toNat := by omega
                     exact ⟨w1, w2, rfl⟩)
                  | (rw [sp, if_pos (by omega)]
                     obtain rfl : e = x.2.2.1 + nn := by omega
                     rw [Nat.add_sub_cancel_left] at w1
                     exact ⟨w1, w2, by show _ = (x.2.2.1 : Int) + (nn : Int); omega⟩)
                  | (exfalso; omega)
            · refine z_iload X dX8_more_121 rfl ?_
              refine z_goto X dX8_more_123 128 (by decide) ?_
              refine z_istore X dX8_more_128 (fun y => [_, _, _, _, _, _, some (vi y)]) (by decide) (fun _ => rfl) (fun t ht => ?_)
              obtain ⟨e, rfl⟩ : ∃ e : Nat, t = (e : Int) := ⟨t.toNat, by omega⟩
              refine zl8_more rfl X (n0 := x.2.2.1 - x.2.1) (k0 := x.2.2.1) (z := x.2.2.2) hA (by omega) o1 (ho.1 _ o1).1 (by omega) o4 (by omega) (fun m2 g4 g9 gF => ?_) (e - x.2.2.1) 0 m (by omega) (hm.1 _ o1) xb (by omega) ⟨fun _ _ _ _ => rfl, fun _ _ => ⟨rfl, rfl, fun _ _ => rfl⟩⟩
              refine z_iload X dX8_more_168 rfl ?_
              refine z_bipush X dX8_more_170 (by decide) ?_
              refine z_icmp_ne X dX8_more_172 180 (by decide) (by omega) (by omega) (fun h172 => ?_) (fun h172 => ?_)
              · refine z_bipush X dX8_more_180 (by decide) ?_
                refine z_iload X dX8_more_182 rfl ?_
                refine z_isub X dX8_more_184 ?_
                refine z_ireturn (st := []) X rfl hQ dX8_more_185 ⟨rfl, _, rfl, ?_⟩
                obtain ⟨w1, w2⟩ := fin m2 e g4 g9 gF
                first
                  | (rw [sp, if_neg (by omega)]
                     obtain rfl : e = p.toNat := by omega
                     exact ⟨w1, w2, rfl⟩)
                  | (rw [sp, if_pos (by omega)]
                     obtain rfl : e = x.2.2.1 + nn := by omega
                     rw [Nat.add_sub_cancel_left] at w1
                     exact ⟨w1, w2, by show _ = (x.2.2.1 : Int) + (nn : Int); omega⟩)
                  | (exfalso; omega)
              · refine z_iload X dX8_more_175 rfl ?_
                refine z_goto X dX8_more_177 185 (by decide) ?_
                refine z_ireturn (st := []) X rfl hQ dX8_more_185 ⟨rfl, _, rfl, ?_⟩
                obtain ⟨w1, w2⟩ := fin m2 e g4 g9 gF
                first
                  | (rw [sp, if_neg (by omega)]
                     obtain rfl : e = p.toNat := by omega
                     exact ⟨w1, w2, rfl⟩)
                  | (rw [sp, if_pos (by omega)]
                     obtain rfl : e = x.2.2.1 + nn := by omega
                     rw [Nat.add_sub_cancel_left] at w1
                     exact ⟨w1, w2, by show _ = (x.2.2.1 : Int) + (nn : Int); omega⟩)
                  | (exfalso; omega)
          · refine z_iconst X dX8_more_104 ?_
            refine z_goto X dX8_more_105 109 (by decide) ?_
            refine z_callVi X (As := [_, _, _, _]) dX8_more_109 m_X8_fall i_X8_fall l_X8_129 (c_X8_fall (zg E) (s := x.1) hA o1 (hm.1 _ o1) (ho.1 _ o1).1 (ho.1 _ o1).2 x.2.1 x.2.2.1 (x.2.2.1 + nn) rfl (by omega) rfl (by omega) (by omega) (by omega)) (by first | assumption | exact zbigA.o (by assumption)) rfl rfl rfl (Nat.le_of_ble_eq_true rfl) ⟨Nat.le_of_ble_eq_true rfl, Nat.le_of_ble_eq_true rfl⟩ ⟨Nat.le_of_ble_eq_true rfl, Nat.le_of_ble_eq_true rfl⟩ ⟨rfl, rfl⟩ (fun r3 m1 hm3 => ?_)
            obtain ⟨rfl, hr⟩ := hm3
            rw [Nat.add_sub_cancel_left] at hr
            have hR := zff_bd (sC σ x.1) (sU σ x.1) (sV σ x.1) x.2.1 x.2.2.1 nn
            rw [← hr] at hR
            have hr' : zfl σ x.1 x.2.1 x.2.2.1 nn = r3 := hr.symm
            have sp : sp_more σ (k : Int) (nn : Int) = if 100 < (x.2.2.1 : Int) + (nn : Int) then (-2, σ) else if r3 = -6 then ((x.2.2.1 : Int) + (nn : Int), wD σ (zup (sD σ) k (some (x.1, x.2.1, x.2.2.1 + nn, zgo (sC σ x.1) x.2.2.1 x.2.2.2 nn)))) else (-100 - r3, wD σ (zup (sD σ) k (some (x.1, x.2.1, r3.toNat, zgo (sC σ x.1) x.2.2.1 x.2.2.2 (r3.toNat - x.2.2.1))))) := by
              unfold sp_more
              rw [if_neg (by omega), if_neg (by omega), Int.toNat_natCast, Int.toNat_natCast, e0]
              simp only []
              rw [hr']
            rw [if_neg (by omega)] at sp
            have fin : ∀ (m' : zM) (e : Nat), zsp4 m' q (4 * k) (zgo (sC σ x.1) x.2.2.1 x.2.2.2 (e - x.2.2.1)) → m' (q + 9) k = (e : Int) → zfrD q k m m' → zMR q m' (wD σ (zup (sD σ) k (some (x.1, x.2.1, e, zgo (sC σ x.1) x.2.2.1 x.2.2.2 (e - x.2.2.1))))) ∧ zmm q m m' := fun m' e g4 g9 gF => ⟨hm.dr (x := some _) (by omega) ⟨(gF.1 _ _ (by omega) (by omega)).trans x7, (gF.1 _ _ (by omega) (by omega)).trans x8, g9, g4⟩ (fun a j h1 h2 => gF.1 a j (by omega) (by omega)) (fun j hj => gF.1 q j (by omega) (by omega)) (fun y h1 h2 => gF.2 y (by omega)), fun a j ha => gF.1 a j (by omega) (by omega)⟩
            refine z_istore X dX8_more_112 (fun y => [_, _, _, _, _, some (vi y), _]) (by decide) (fun _ => rfl) (fun p hp => ?_)
            obtain rfl : p = r3 := by omega
            refine z_iload X dX8_more_114 rfl ?_
            refine z_bipush X dX8_more_116 (by decide) ?_
            refine z_icmp_ne X dX8_more_118 126 (by decide) (by omega) (by omega) (fun h118 => ?_) (fun h118 => ?_)
            · refine z_iload X dX8_more_126 rfl ?_
              refine z_istore X dX8_more_128 (fun y => [_, _, _, _, _, _, some (vi y)]) (by decide) (fun _ => rfl) (fun t ht => ?_)
              obtain ⟨e, rfl⟩ : ∃ e : Nat, t = (e : Int) := ⟨t.toNat, by omega⟩
              refine zl8_more rfl X (n0 := x.2.2.1 - x.2.1) (k0 := x.2.2.1) (z := x.2.2.2) hA (by omega) o1 (ho.1 _ o1).1 (by omega) o4 (by omega) (fun m2 g4 g9 gF => ?_) (e - x.2.2.1) 0 m (by omega) (hm.1 _ o1) xb (by omega) ⟨fun _ _ _ _ => rfl, fun _ _ => ⟨rfl, rfl, fun _ _ => rfl⟩⟩
              refine z_iload X dX8_more_168 rfl ?_
              refine z_bipush X dX8_more_170 (by decide) ?_
              refine z_icmp_ne X dX8_more_172 180 (by decide) (by omega) (by omega) (fun h172 => ?_) (fun h172 => ?_)
              · refine z_bipush X dX8_more_180 (by decide) ?_
                refine z_iload X dX8_more_182 rfl ?_
                refine z_isub X dX8_more_184 ?_
                refine z_ireturn (st := []) X rfl hQ dX8_more_185 ⟨rfl, _, rfl, ?_⟩
                obtain ⟨w1, w2⟩ := fin m2 e g4 g9 gF
                first
                  | (rw [sp, if_neg (by omega)]
                     obtain rfl : e = p.toNat := by omega
                     exact ⟨w1, w2, rfl⟩)
                  | (rw [sp, if_pos (by omega)]
                     obtain rfl : e = x.2.2.1 + nn := by omega
                     rw [Nat.add_sub_cancel_left] at w1
                     exact ⟨w1, w2, by show _ = (x.2.2.1 : Int) + (nn : Int); omega⟩)
                  | (exfalso; omega)
              · refine z_iload X dX8_more_175 rfl ?_
                refine z_goto X dX8_more_177 185 (by decide) ?_
                refine z_ireturn (st := []) X rfl hQ dX8_more_185 ⟨rfl, _, rfl, ?_⟩
                obtain ⟨w1, w2⟩ := fin m2 e g4 g9 gF
                first
                  | (rw [sp, if_neg (by omega)]
                     obtain rfl : e = p.toNat := by omega
                     exact ⟨w1, w2, rfl⟩)
                  | (rw [sp, if_pos (by omega)]
                     obtain rfl : e = x.2.2.1 + nn := by omega
                     rw [Nat.add_sub_cancel_left] at w1
                     exact ⟨w1, w2, by show _ = (x.2.2.1 : Int) + (nn : Int); omega⟩)
                  | (exfalso; omega)
            · refine z_iload X dX8_more_121 rfl ?_
              refine z_goto X dX8_more_123 128 (by decide) ?_
              refine z_istore X dX8_more_128 (fun y => [_, _, _, _, _, _, some (vi y)]) (by decide) (fun _ => rfl) (fun t ht => ?_)
              obtain ⟨e, rfl⟩ : ∃ e : Nat, t = (e : Int) := ⟨t.toNat, by omega⟩
              refine zl8_more rfl X (n0 := x.2.2.1 - x.2.1) (k0 := x.2.2.1) (z := x.2.2.2) hA (by omega) o1 (ho.1 _ o1).1 (by omega) o4 (by omega) (fun m2 g4 g9 gF => ?_) (e - x.2.2.1) 0 m (by omega) (hm.1 _ o1) xb (by omega) ⟨fun _ _ _ _ => rfl, fun _ _ => ⟨rfl, rfl, fun _ _ => rfl⟩⟩
              refine z_iload X dX8_more_168 rfl ?_
              refine z_bipush X dX8_more_170 (by decide) ?_
              refine z_icmp_ne X dX8_more_172 180 (by decide) (by omega) (by omega) (fun h172 => ?_) (fun h172 => ?_)
              · refine z_bipush X dX8_more_180 (by decide) ?_
                refine z_iload X dX8_more_182 rfl ?_
                refine z_isub X dX8_more_184 ?_
                refine z_ireturn (st := []) X rfl hQ dX8_more_185 ⟨rfl, _, rfl, ?_⟩
                obtain ⟨w1, w2⟩ := fin m2 e g4 g9 gF
                first
                  | (rw [sp, if_neg (by omega)]
                     obtain rfl : e = p.toNat := by omega
                     exact ⟨w1, w2, rfl⟩)
                  | (rw [sp, if_pos (by omega)]
                     obtain rfl : e = x.2.2.1 + nn := by omega
                     rw [Nat.add_sub_cancel_left] at w1
                     exact ⟨w1, w2, by show _ = (x.2.2.1 : Int) + (nn : Int); omega⟩)
                  | (exfalso; omega)
              · refine z_iload X dX8_more_175 rfl ?_
                refine z_goto X dX8_more_177 185 (by decide) ?_
                refine z_ireturn (st := []) X rfl hQ dX8_more_185 ⟨rfl, _, rfl, ?_⟩
                obtain ⟨w1, w2⟩ := fin m2 e g4 g9 gF
                first
                  | (rw [sp, if_neg (by omega)]
                     obtain rfl : e = p.toNat := by omega
                     exact ⟨w1, w2, rfl⟩)
                  | (rw [sp, if_pos (by omega)]
                     obtain rfl : e = x.2.2.1 + nn := by omega
                     rw [Nat.add_sub_cancel_left] at w1
                     exact ⟨w1, w2, by show _ = (x.2.2.1 : Int) + (nn : Int); omega⟩)
                  | (exfalso; omega)
        · refine z_bipush X dX8_more_59 (by decide) ?_
          refine z_ireturn (st := []) X rfl hQ dX8_more_61 ⟨rfl, _, rfl, ?_⟩
          rcases hdr.h7 with ⟨_, e⟩ | ⟨y, e, h1, h2, h3, _⟩
          · unfold sp_more
            rw [if_neg (by omega), if_neg (by omega), Int.toNat_natCast, e]
            exact ⟨hm, zmm.r, rfl⟩
          · exact absurd h1 (by omega)
      · refine z_aload_n X dX8_more_32 rfl ?_
        refine z_getR X dX8_more_33 f_X8_36 rfl (by first | assumption | exact zbigA.o (by assumption)) (by assumption) ?_
        refine z_iload_n X dX8_more_36 rfl ?_
        refine z_iald X (k) dX8_more_37 (by omega) (by assumption) (by omega) (by omega) ?_
        refine z_iload_n X dX8_more_38 rfl ?_
        refine z_iadd X dX8_more_39 ?_
        refine z_bipush X dX8_more_40 (by decide) ?_
        refine z_icmp_le X dX8_more_42 48 (by decide) (by omega) (by omega) (fun h42 => ?_) (fun h42 => ?_)
        · refine z_aload_n X dX8_more_48 rfl ?_
          refine z_getR X dX8_more_49 f_X8_30 rfl (by first | assumption | exact zbigA.o (by assumption)) (by assumption) ?_
          refine z_iload_n X dX8_more_52 rfl ?_
          refine z_iald X (k) dX8_more_53 (by omega) (by assumption) (by omega) (by omega) ?_
          refine z_bipush X dX8_more_54 (by decide) ?_
          refine z_icmp_ne X dX8_more_56 62 (by decide) (by omega) (by omega) (fun h56 => ?_) (fun h56 => ?_)
          · rcases hdr.h7 with ⟨h7, _⟩ | ⟨x, e0, x7, x8, x9, xb⟩
            · exact absurd h7 (by omega)
            obtain ⟨o1, o2, o3, o4⟩ := ho.2.1 k x (by omega) e0
            obtain ⟨nn, rfl⟩ : ∃ nn : Nat, n = (nn : Int) := ⟨n.toNat, by omega⟩
            refine z_aload_n X dX8_more_62 rfl ?_
            refine z_getR X dX8_more_63 f_X8_30 rfl (by first | assumption | exact zbigA.o (by assumption)) (by assumption) ?_
            refine z_iload_n X dX8_more_66 rfl ?_
            refine z_iald X (k) dX8_more_67 (by omega) (by assumption) (by omega) (by omega) ?_
            refine z_istore_n X dX8_more_68 (fun y => [_, _, _, some (vi y), _, _, _]) (by decide) (fun _ => rfl) (fun s hsx => ?_)
            obtain rfl : s = (x.1 : Int) := by omega
            refine z_aload_n X dX8_more_69 rfl ?_
            refine z_getR X dX8_more_70 f_X8_36 rfl (by first | assumption | exact zbigA.o (by assumption)) (by assumption) ?_
            refine z_iload_n X dX8_more_73 rfl ?_
            refine z_iald X (k) dX8_more_74 (by omega) (by assumption) (by omega) (by omega) ?_
            refine z_iload_n X dX8_more_75 rfl ?_
            refine z_iadd X dX8_more_76 ?_
            refine z_istore X dX8_more_77 (fun y => [_, _, _, _, some (vi y), _, _]) (by decide) (fun _ => rfl) (fun e hex => ?_)
            obtain rfl : e = ((x.2.2.1 + nn : Nat) : Int) := by omega
            refine z_aload_n X dX8_more_79 rfl ?_
            refine z_iload_n X dX8_more_80 rfl ?_
            refine z_aload_n X dX8_more_81 rfl ?_
            refine z_getR X dX8_more_82 f_X8_36 rfl (by first | assumption | exact zbigA.o (by assumption)) (by assumption) ?_
            refine z_iload_n X dX8_more_85 rfl ?_
            refine z_iald X (k) dX8_more_86 (by omega) (by assumption) (by omega) (by omega) ?_
            refine z_iload X dX8_more_87 rfl ?_
            refine z_aload_n X dX8_more_89 rfl ?_
            refine z_getR X dX8_more_90 f_X8_36 rfl (by first | assumption | exact zbigA.o (by assumption)) (by assumption) ?_
            refine z_iload_n X dX8_more_93 rfl ?_
            refine z_iald X (k) dX8_more_94 (by omega) (by assumption) (by omega) (by omega) ?_
            refine z_aload_n X dX8_more_95 rfl ?_
            refine z_getR X dX8_more_96 f_X8_33 rfl (by first | assumption | exact zbigA.o (by assumption)) (by assumption) ?_
            refine z_iload_n X dX8_more_99 rfl ?_
            refine z_iald X (k) dX8_more_100 (by omega) (by assumption) (by omega) (by omega) ?_
            refine z_icmp_le X dX8_more_101 108 (by decide) (by omega) (by omega) (fun h101 => ?_) (fun h101 => ?_)
            · refine z_iconst X dX8_more_108 ?_
              refine z_callVi X (As := [_, _, _, _]) dX8_more_109 m_X8_fall i_X8_fall l_X8_129 (c_X8_fall (zg E) (s := x.1) hA o1 (hm.1 _ o1) (ho.1 _ o1).1 (ho.1 _ o1).2 x.2.1 x.2.2.1 (x.2.2.1 + nn) rfl (by omega) rfl (by omega) (by omega) (by omega)) (by first | assumption | exact zbigA.o (by assumption)) rfl rfl rfl (Nat.le_of_ble_eq_true rfl) ⟨Nat.le_of_ble_eq_true rfl, Nat.le_of_ble_eq_true rfl⟩ ⟨Nat.le_of_ble_eq_true rfl, Nat.le_of_ble_eq_true rfl⟩ ⟨rfl, rfl⟩ (fun r3 m1 hm3 => ?_)
              obtain ⟨rfl, hr⟩ := hm3
              rw [Nat.add_sub_cancel_left] at hr
              have hR := zff_bd (sC σ x.1) (sU σ x.1) (sV σ x.1) x.2.1 x.2.2.1 nn
              rw [← hr] at hR
              have hr' : zfl σ x.1 x.2.1 x.2.2.1 nn = r3 := hr.symm
              have sp : sp_more σ (k : Int) (nn : Int) = if 100 < (x.2.2.1 : Int) + (nn : Int) then (-2, σ) else if r3 = -6 then ((x.2.2.1 : Int) + (nn : Int), wD σ (zup (sD σ) k (some (x.1, x.2.1, x.2.2.1 + nn, zgo (sC σ x.1) x.2.2.1 x.2.2.2 nn)))) else (-100 - r3, wD σ (zup (sD σ) k (some (x.1, x.2.1, r3.toNat, zgo (sC σ x.1) x.2.2.1 x.2.2.2 (r3.toNat - x.2.2.1))))) := by
                unfold sp_more
                rw [if_neg (by omega), if_neg (by omega), Int.toNat_natCast, Int.toNat_natCast, e0]
                simp only []
                rw [hr']
              rw [if_neg (by omega)] at sp
              have fin : ∀ (m' : zM) (e : Nat), zsp4 m' q (4 * k) (zgo (sC σ x.1) x.2.2.1 x.2.2.2 (e - x.2.2.1)) → m' (q + 9) k = (e : Int) → zfrD q k m m' → zMR q m' (wD σ (zup (sD σ) k (some (x.1, x.2.1, e, zgo (sC σ x.1) x.2.2.1 x.2.2.2 (e - x.2.2.1))))) ∧ zmm q m m' := fun m' e g4 g9 gF => ⟨hm.dr (x := some _) (by omega) ⟨(gF.1 _ _ (by omega) (by omega)).trans x7, (gF.1 _ _ (by omega) (by omega)).trans x8, g9, g4⟩ (fun a j h1 h2 => gF.1 a j (by omega) (by omega)) (fun j hj => gF.1 q j (by omega) (by omega)) (fun y h1 h2 => gF.2 y (by omega)), fun a j ha => gF.1 a j (by omega) (by omega)⟩
              refine z_istore X dX8_more_112 (fun y => [_, _, _, _, _, some (vi y), _]) (by decide) (fun _ => rfl) (fun p hp => ?_)
              obtain rfl : p = r3 := by omega
              refine z_iload X dX8_more_114 rfl ?_
              refine z_bipush X dX8_more_116 (by decide) ?_
              refine z_icmp_ne X dX8_more_118 126 (by decide) (by omega) (by omega) (fun h118 => ?_) (fun h118 => ?_)
              · refine z_iload X dX8_more_126 rfl ?_
                refine z_istore X dX8_more_128 (fun y => [_, _, _, _, _, _, some (vi y)]) (by decide) (fun _ => rfl) (fun t ht => ?_)
                obtain ⟨e, rfl⟩ : ∃ e : Nat, t = (e : Int) := ⟨t.toNat, by omega⟩
                refine zl8_more rfl X (n0 := x.2.2.1 - x.2.1) (k0 := x.2.2.1) (z := x.2.2.2) hA (by omega) o1 (ho.1 _ o1).1 (by omega) o4 (by omega) (fun m2 g4 g9 gF => ?_) (e - x.2.2.1) 0 m (by omega) (hm.1 _ o1) xb (by omega) ⟨fun _ _ _ _ => rfl, fun _ _ => ⟨rfl, rfl, fun _ _ => rfl⟩⟩
                refine z_iload X dX8_more_168 rfl ?_
                refine z_bipush X dX8_more_170 (by decide) ?_
                refine z_icmp_ne X dX8_more_172 180 (by decide) (by omega) (by omega) (fun h172 => ?_) (fun h172 => ?_)
                · refine z_bipush X dX8_more_180 (by decide) ?_
                  refine z_iload X dX8_more_182 rfl ?_
                  refine z_isub X dX8_more_184 ?_
                  refine z_ireturn (st := []) X rfl hQ dX8_more_185 ⟨rfl, _, rfl, ?_⟩
                  obtain ⟨w1, w2⟩ := fin m2 e g4 g9 gF
                  first
                    | (rw [sp, if_neg (by omega)]
                       obtain rfl : e = p.toNat := by omega
                       exact ⟨w1, w2, rfl⟩)
                    | (rw [sp, if_pos (by omega)]
                       obtain rfl : e = x.2.2.1 + nn := by omega
                       rw [Nat.add_sub_cancel_left] at w1
                       exact ⟨w1, w2, by show _ = (x.2.2.1 : Int) + (nn : Int); omega⟩)
                    | (exfalso; omega)
                · refine z_iload X dX8_more_175 rfl ?_
                  refine z_goto X dX8_more_177 185 (by decide) ?_
                  refine z_ireturn (st := []) X rfl hQ dX8_more_185 ⟨rfl, _, rfl, ?_⟩
                  obtain ⟨w1, w2⟩ := fin m2 e g4 g9 gF
                  first
                    | (rw [sp, if_neg (by omega)]
                       obtain rfl : e = p.toNat := by omega
                       exact ⟨w1, w2, rfl⟩)
                    | (rw [sp, if_pos (by omega)]
                       obtain rfl : e = x.2.2.1 + nn := by omega
                       rw [Nat.add_sub_cancel_left] at w1
                       exact ⟨w1, w2, by show _ = (x.2.2.1 : Int) + (nn : Int); omega⟩)
                    | (exfalso; omega)
              · refine z_iload X dX8_more_121 rfl ?_
                refine z_goto X dX8_more_123 128 (by decide) ?_
                refine z_istore X dX8_more_128 (fun y => [_, _, _, _, _, _, some (vi y)]) (by decide) (fun _ => rfl) (fun t ht => ?_)
                obtain ⟨e, rfl⟩ : ∃ e : Nat, t = (e : Int) := ⟨t.toNat, by omega⟩
                refine zl8_more rfl X (n0 := x.2.2.1 - x.2.1) (k0 := x.2.2.1) (z := x.2.2.2) hA (by omega) o1 (ho.1 _ o1).1 (by omega) o4 (by omega) (fun m2 g4 g9 gF => ?_) (e - x.2.2.1) 0 m (by omega) (hm.1 _ o1) xb (by omega) ⟨fun _ _ _ _ => rfl, fun _ _ => ⟨rfl, rfl, fun _ _ => rfl⟩⟩
                refine z_iload X dX8_more_168 rfl ?_
                refine z_bipush X dX8_more_170 (by decide) ?_
                refine z_icmp_ne X dX8_more_172 180 (by decide) (by omega) (by omega) (fun h172 => ?_) (fun h172 => ?_)
                · refine z_bipush X dX8_more_180 (by decide) ?_
                  refine z_iload X dX8_more_182 rfl ?_
                  refine z_isub X dX8_more_184 ?_
                  refine z_ireturn (st := []) X rfl hQ dX8_more_185 ⟨rfl, _, rfl, ?_⟩
                  obtain ⟨w1, w2⟩ := fin m2 e g4 g9 gF
                  first
                    | (rw [sp, if_neg (by omega)]
                       obtain rfl : e = p.toNat := by omega
                       exact ⟨w1, w2, rfl⟩)
                    | (rw [sp, if_pos (by omega)]
                       obtain rfl : e = x.2.2.1 + nn := by omega
                       rw [Nat.add_sub_cancel_left] at w1
                       exact ⟨w1, w2, by show _ = (x.2.2.1 : Int) + (nn : Int); omega⟩)
                    | (exfalso; omega)
                · refine z_iload X dX8_more_175 rfl ?_
                  refine z_goto X dX8_more_177 185 (by decide) ?_
                  refine z_ireturn (st := []) X rfl hQ dX8_more_185 ⟨rfl, _, rfl, ?_⟩
                  obtain ⟨w1, w2⟩ := fin m2 e g4 g9 gF
                  first
                    | (rw [sp, if_neg (by omega)]
                       obtain rfl : e = p.toNat := by omega
                       exact ⟨w1, w2, rfl⟩)
                    | (rw [sp, if_pos (by omega)]
                       obtain rfl : e = x.2.2.1 + nn := by omega
                       rw [Nat.add_sub_cancel_left] at w1
                       exact ⟨w1, w2, by show _ = (x.2.2.1 : Int) + (nn : Int); omega⟩)
                    | (exfalso; omega)
            · refine z_iconst X dX8_more_104 ?_
              refine z_goto X dX8_more_105 109 (by decide) ?_
              refine z_callVi X (As := [_, _, _, _]) dX8_more_109 m_X8_fall i_X8_fall l_X8_129 (c_X8_fall (zg E) (s := x.1) hA o1 (hm.1 _ o1) (ho.1 _ o1).1 (ho.1 _ o1).2 x.2.1 x.2.2.1 (x.2.2.1 + nn) rfl (by omega) rfl (by omega) (by omega) (by omega)) (by first | assumption | exact zbigA.o (by assumption)) rfl rfl rfl (Nat.le_of_ble_eq_true rfl) ⟨Nat.le_of_ble_eq_true rfl, Nat.le_of_ble_eq_true rfl⟩ ⟨Nat.le_of_ble_eq_true rfl, Nat.le_of_ble_eq_true rfl⟩ ⟨rfl, rfl⟩ (fun r3 m1 hm3 => ?_)
              obtain ⟨rfl, hr⟩ := hm3
              rw [Nat.add_sub_cancel_left] at hr
              have hR := zff_bd (sC σ x.1) (sU σ x.1) (sV σ x.1) x.2.1 x.2.2.1 nn
              rw [← hr] at hR
              have hr' : zfl σ x.1 x.2.1 x.2.2.1 nn = r3 := hr.symm
              have sp : sp_more σ (k : Int) (nn : Int) = if 100 < (x.2.2.1 : Int) + (nn : Int) then (-2, σ) else if r3 = -6 then ((x.2.2.1 : Int) + (nn : Int), wD σ (zup (sD σ) k (some (x.1, x.2.1, x.2.2.1 + nn, zgo (sC σ x.1) x.2.2.1 x.2.2.2 nn)))) else (-100 - r3, wD σ (zup (sD σ) k (some (x.1, x.2.1, r3.toNat, zgo (sC σ x.1) x.2.2.1 x.2.2.2 (r3.toNat - x.2.2.1))))) := by
                unfold sp_more
                rw [if_neg (by omega), if_neg (by omega), Int.toNat_natCast, Int.toNat_natCast, e0]
                simp only []
                rw [hr']
              rw [if_neg (by omega)] at sp
              have fin : ∀ (m' : zM) (e : Nat), zsp4 m' q (4 * k) (zgo (sC σ x.1) x.2.2.1 x.2.2.2 (e - x.2.2.1)) → m' (q + 9) k = (e : Int) → zfrD q k m m' → zMR q m' (wD σ (zup (sD σ) k (some (x.1, x.2.1, e, zgo (sC σ x.1) x.2.2.1 x.2.2.2 (e - x.2.2.1))))) ∧ zmm q m m' := fun m' e g4 g9 gF => ⟨hm.dr (x := some _) (by omega) ⟨(gF.1 _ _ (by omega) (by omega)).trans x7, (gF.1 _ _ (by omega) (by omega)).trans x8, g9, g4⟩ (fun a j h1 h2 => gF.1 a j (by omega) (by omega)) (fun j hj => gF.1 q j (by omega) (by omega)) (fun y h1 h2 => gF.2 y (by omega)), fun a j ha => gF.1 a j (by omega) (by omega)⟩
              refine z_istore X dX8_more_112 (fun y => [_, _, _, _, _, some (vi y), _]) (by decide) (fun _ => rfl) (fun p hp => ?_)
              obtain rfl : p = r3 := by omega
              refine z_iload X dX8_more_114 rfl ?_
              refine z_bipush X dX8_more_116 (by decide) ?_
              refine z_icmp_ne X dX8_more_118 126 (by decide) (by omega) (by omega) (fun h118 => ?_) (fun h118 => ?_)
              · refine z_iload X dX8_more_126 rfl ?_
                refine z_istore X dX8_more_128 (fun y => [_, _, _, _, _, _, some (vi y)]) (by decide) (fun _ => rfl) (fun t ht => ?_)
                obtain ⟨e, rfl⟩ : ∃ e : Nat, t = (e : Int) := ⟨t.toNat, by omega⟩
                refine zl8_more rfl X (n0 := x.2.2.1 - x.2.1) (k0 := x.2.2.1) (z := x.2.2.2) hA (by omega) o1 (ho.1 _ o1).1 (by omega) o4 (by omega) (fun m2 g4 g9 gF => ?_) (e - x.2.2.1) 0 m (by omega) (hm.1 _ o1) xb (by omega) ⟨fun _ _ _ _ => rfl, fun _ _ => ⟨rfl, rfl, fun _ _ => rfl⟩⟩
                refine z_iload X dX8_more_168 rfl ?_
                refine z_bipush X dX8_more_170 (by decide) ?_
                refine z_icmp_ne X dX8_more_172 180 (by decide) (by omega) (by omega) (fun h172 => ?_) (fun h172 => ?_)
                · refine z_bipush X dX8_more_180 (by decide) ?_
                  refine z_iload X dX8_more_182 rfl ?_
                  refine z_isub X dX8_more_184 ?_
                  refine z_ireturn (st := []) X rfl hQ dX8_more_185 ⟨rfl, _, rfl, ?_⟩
                  obtain ⟨w1, w2⟩ := fin m2 e g4 g9 gF
                  first
                    | (rw [sp, if_neg (by omega)]
                       obtain rfl : e = p.toNat := by omega
                       exact ⟨w1, w2, rfl⟩)
                    | (rw [sp, if_pos (by omega)]
                       obtain rfl : e = x.2.2.1 + nn := by omega
                       rw [Nat.add_sub_cancel_left] at w1
                       exact ⟨w1, w2, by show _ = (x.2.2.1 : Int) + (nn : Int); omega⟩)
                    | (exfalso; omega)
                · refine z_iload X dX8_more_175 rfl ?_
                  refine z_goto X dX8_more_177 185 (by decide) ?_
                  refine z_ireturn (st := []) X rfl hQ dX8_more_185 ⟨rfl, _, rfl, ?_⟩
                  obtain ⟨w1, w2⟩ := fin m2 e g4 g9 gF
                  first
                    | (rw [sp, if_neg (by omega)]
                       obtain rfl : e = p.toNat := by omega
                       exact ⟨w1, w2, rfl⟩)
                    | (rw [sp, if_pos (by omega)]
                       obtain rfl : e = x.2.2.1 + nn := by omega
                       rw [Nat.add_sub_cancel_left] at w1
                       exact ⟨w1, w2, by show _ = (x.2.2.1 : Int) + (nn : Int); omega⟩)
                    | (exfalso; omega)
              · refine z_iload X dX8_more_121 rfl ?_
                refine z_goto X dX8_more_123 128 (by decide) ?_
                refine z_istore X dX8_more_128 (fun y => [_, _, _, _, _, _, some (vi y)]) (by decide) (fun _ => rfl) (fun t ht => ?_)
                obtain ⟨e, rfl⟩ : ∃ e : Nat, t = (e : Int) := ⟨t.toNat, by omega⟩
                refine zl8_more rfl X (n0 := x.2.2.1 - x.2.1) (k0 := x.2.2.1) (z := x.2.2.2) hA (by omega) o1 (ho.1 _ o1).1 (by omega) o4 (by omega) (fun m2 g4 g9 gF => ?_) (e - x.2.2.1) 0 m (by omega) (hm.1 _ o1) xb (by omega) ⟨fun _ _ _ _ => rfl, fun _ _ => ⟨rfl, rfl, fun _ _ => rfl⟩⟩
                refine z_iload X dX8_more_168 rfl ?_
                refine z_bipush X dX8_more_170 (by decide) ?_
                refine z_icmp_ne X dX8_more_172 180 (by decide) (by omega) (by omega) (fun h172 => ?_) (fun h172 => ?_)
                · refine z_bipush X dX8_more_180 (by decide) ?_
                  refine z_iload X dX8_more_182 rfl ?_
                  refine z_isub X dX8_more_184 ?_
                  refine z_ireturn (st := []) X rfl hQ dX8_more_185 ⟨rfl, _, rfl, ?_⟩
                  obtain ⟨w1, w2⟩ := fin m2 e g4 g9 gF
                  first
                    | (rw [sp, if_neg (by omega)]
                       obtain rfl : e = p.toNat := by omega
                       exact ⟨w1, w2, rfl⟩)
                    | (rw [sp, if_pos (by omega)]
                       obtain rfl : e = x.2.2.1 + nn := by omega
                       rw [Nat.add_sub_cancel_left] at w1
                       exact ⟨w1, w2, by show _ = (x.2.2.1 : Int) + (nn : Int); omega⟩)
                    | (exfalso; omega)
                · refine z_iload X dX8_more_175 rfl ?_
                  refine z_goto X dX8_more_177 185 (by decide) ?_
                  refine z_ireturn (st := []) X rfl hQ dX8_more_185 ⟨rfl, _, rfl, ?_⟩
                  obtain ⟨w1, w2⟩ := fin m2 e g4 g9 gF
                  first
                    | (rw [sp, if_neg (by omega)]
                       obtain rfl : e = p.toNat := by omega
                       exact ⟨w1, w2, rfl⟩)
                    | (rw [sp, if_pos (by omega)]
                       obtain rfl : e = x.2.2.1 + nn := by omega
                       rw [Nat.add_sub_cancel_left] at w1
                       exact ⟨w1, w2, by show _ = (x.2.2.1 : Int) + (nn : Int); omega⟩)
                    | (exfalso; omega)
          · refine z_bipush X dX8_more_59 (by decide) ?_
            refine z_ireturn (st := []) X rfl hQ dX8_more_61 ⟨rfl, _, rfl, ?_⟩
            rcases hdr.h7 with ⟨_, e⟩ | ⟨y, e, h1, h2, h3, _⟩
            · unfold sp_more
              rw [if_neg (by omega), if_neg (by omega), Int.toNat_natCast, e]
              exact ⟨hm, zmm.r, rfl⟩
            · exact absurd h1 (by omega)
        · refine z_bipush X dX8_more_45 (by decide) ?_
          refine z_ireturn (st := []) X rfl hQ dX8_more_47 ⟨rfl, _, rfl, ?_⟩
          exact out (by omega)
  · refine z_iconst X dX8_more_7 ?_
    refine z_ireturn (st := []) X rfl hQ dX8_more_8 ⟨rfl, _, rfl, ?_⟩
    exact absurd h4 (by omega)
theorem c_X8_join (G : zG) {A : zA} {m : zM} {q : Nat} {σ : zSt} {d e f : Int} (hA : zmodA A q) (hm : zMR q m σ) (ho : zStok σ) (hd : zi32 d) (he : zi32 e) (hf0 : zi32 f) : zMet G k_X8_join [vr q, vi d, vi e, vi f] A m (zpi A (fun r m' => zMR q m' (sp_join σ d e f).2 ∧ zmm q m m' ∧ r = (sp_join σ d e f).1)) := by
  obtain ⟨⟨hO0, f0, f1, f2, f3, f4, f5, f6, f7, f8, f9, f10, f11, f12, f16, f24, f25⟩, ⟨g1, g2, g3⟩, ⟨g4, g5, g6, g7, g8, g9⟩, ⟨g10, g11, g12, g13⟩, g14, g15, g16⟩ := id hA
  unfold zi32 at hd he hf0
  by_cases hout : ¬ zin d 0 7 ∨ ¬ zin e 0 7 ∨ ¬ zin f 0 7
  · skip
    refine zMet.of RX8 rfl (by decide +kernel) (Nat.le_of_ble_eq_true rfl) [some (vr q), some (vi d), some (vi e), some (vi f), none, none, none] rfl (fun E hG X hQ hNm => ?_)
    subst hG
    refine z_iload_n X dX8_join_0 rfl ?_
    refine z_callSi X (As := [_]) dX8_join_1 m_X8_isDrawer s_X8_isDrawer l_X8_150 (c_X8_isDrawer (zg E) hd) rfl rfl (Nat.le_of_ble_eq_true rfl) ⟨Nat.le_of_ble_eq_true rfl, Nat.le_of_ble_eq_true rfl⟩ ⟨Nat.le_of_ble_eq_true rfl, Nat.le_of_ble_eq_true rfl⟩ ⟨rfl, rfl⟩ (fun r1 m1 hm1 => ?_)
    obtain ⟨rfl, hr1⟩ := hm1
    refine z_if_eq X dX8_join_4 21 (by decide) (by omega) (fun h4 => ?_) (fun h4 => ?_)
    · refine z_iconst X dX8_join_21 ?_
      refine z_ireturn (st := []) X rfl hQ dX8_join_22 ⟨rfl, _, rfl, ?_⟩
      unfold sp_join
      rw [if_pos hout]
      exact ⟨hm, zmm.r, rfl⟩
    · refine z_iload_n X dX8_join_7 rfl ?_
      refine z_callSi X (As := [_]) dX8_join_8 m_X8_isDrawer s_X8_isDrawer l_X8_150 (c_X8_isDrawer (zg E) he) rfl rfl (Nat.le_of_ble_eq_true rfl) ⟨Nat.le_of_ble_eq_true rfl, Nat.le_of_ble_eq_true rfl⟩ ⟨Nat.le_of_ble_eq_true rfl, Nat.le_of_ble_eq_true rfl⟩ ⟨rfl, rfl⟩ (fun r2 m1 hm1 => ?_)
      obtain ⟨rfl, hr2⟩ := hm1
      refine z_if_eq X dX8_join_11 21 (by decide) (by omega) (fun h11 => ?_) (fun h11 => ?_)
      · refine z_iconst X dX8_join_21 ?_
        refine z_ireturn (st := []) X rfl hQ dX8_join_22 ⟨rfl, _, rfl, ?_⟩
        unfold sp_join
        rw [if_pos hout]
        exact ⟨hm, zmm.r, rfl⟩
      · refine z_iload_n X dX8_join_14 rfl ?_
        refine z_callSi X (As := [_]) dX8_join_15 m_X8_isDrawer s_X8_isDrawer l_X8_150 (c_X8_isDrawer (zg E) hf0) rfl rfl (Nat.le_of_ble_eq_true rfl) ⟨Nat.le_of_ble_eq_true rfl, Nat.le_of_ble_eq_true rfl⟩ ⟨Nat.le_of_ble_eq_true rfl, Nat.le_of_ble_eq_true rfl⟩ ⟨rfl, rfl⟩ (fun r3 m1 hm1 => ?_)
        obtain ⟨rfl, hr3⟩ := hm1
        refine z_if_ne X dX8_join_18 23 (by decide) (by omega) (fun h18 => ?_) (fun h18 => ?_)
        · exact absurd h18 (by omega)
        · refine z_iconst X dX8_join_21 ?_
          refine z_ireturn (st := []) X rfl hQ dX8_join_22 ⟨rfl, _, rfl, ?_⟩
          unfold sp_join
          rw [if_pos hout]
          exact ⟨hm, zmm.r, rfl⟩
  obtain ⟨k, rfl⟩ : ∃ k : Nat, d = (k : Int) := ⟨d.toNat, by omega⟩
  obtain ⟨l, rfl⟩ : ∃ l : Nat, e = (l : Int) := ⟨e.toNat, by omega⟩
  obtain ⟨t, rfl⟩ : ∃ t : Nat, f = (t : Int) := ⟨f.toNat, by omega⟩
  have hkr := hm.2.1 k (by omega)
  have hlr := hm.2.1 l (by omega)
  have bd : ∀ k, k < 8 → (m (q + 7) k = -6 ∧ sD σ k = none) ∨ ((0 ≤ m (q + 7) k ∧ m (q + 7) k < 6) ∧ (0 ≤ m (q + 8) k ∧ m (q + 8) k ≤ 100) ∧ (0 ≤ m (q + 9) k ∧ m (q + 9) k ≤ 100)) := fun k hk => by
    rcases (hm.2.1 k hk).h7 with ⟨h, e⟩ | ⟨y, e, h1, h2, h3, _⟩
    · exact Or.inl ⟨h, e⟩
    · obtain ⟨o1, o2, o3, o4⟩ := ho.2.1 k y hk e
      exact Or.inr (by omega)
  have bk := bd k (by omega)
  have bl := bd l (by omega)
  have none3 : m (q + 7) k = -6 ∨ m (q + 7) l = -6 → zMR q m (sp_join σ (k : Int) (l : Int) (t : Int)).2 ∧ zmm q m m ∧ -3 = (sp_join σ (k : Int) (l : Int) (t : Int)).1 := fun h => by
    unfold sp_join
    rw [if_neg hout, Int.toNat_natCast, Int.toNat_natCast, Int.toNat_natCast]
    rcases hkr.h7 with ⟨_, e⟩ | ⟨y, e, h1, _⟩
    · rw [e]; exact ⟨hm, zmm.r, rfl⟩
    · rcases hlr.h7 with ⟨_, e'⟩ | ⟨y', e', h1', _⟩
      · rw [e, e']; exact ⟨hm, zmm.r, rfl⟩
      · omega
  refine zMet.of RX8 rfl (by decide +kernel) (Nat.le_of_ble_eq_true rfl) [some (vr q), some (vi (k : Int)), some (vi (l : Int)), some (vi (t : Int)), none, none, none] rfl (fun E hG X hQ hNm => ?_)
  subst hG
  refine z_iload_n X dX8_join_0 rfl ?_
  refine z_callSi X (As := [_]) dX8_join_1 m_X8_isDrawer s_X8_isDrawer l_X8_150 (c_X8_isDrawer (zg E) hd) rfl rfl (Nat.le_of_ble_eq_true rfl) ⟨Nat.le_of_ble_eq_true rfl, Nat.le_of_ble_eq_true rfl⟩ ⟨Nat.le_of_ble_eq_true rfl, Nat.le_of_ble_eq_true rfl⟩ ⟨rfl, rfl⟩ (fun r1 m1 hm1 => ?_)
  obtain ⟨rfl, hr1⟩ := hm1
  refine z_if_eq X dX8_join_4 21 (by decide) (by omega) (fun h4 => ?_) (fun h4 => ?_)
  · refine z_iconst X dX8_join_21 ?_
    refine z_ireturn (st := []) X rfl hQ dX8_join_22 ⟨rfl, _, rfl, ?_⟩
    exfalso; omega
  · refine z_iload_n X dX8_join_7 rfl ?_
    refine z_callSi X (As := [_]) dX8_join_8 m_X8_isDrawer s_X8_isDrawer l_X8_150 (c_X8_isDrawer (zg E) he) rfl rfl (Nat.le_of_ble_eq_true rfl) ⟨Nat.le_of_ble_eq_true rfl, Nat.le_of_ble_eq_true rfl⟩ ⟨Nat.le_of_ble_eq_true rfl, Nat.le_of_ble_eq_true rfl⟩ ⟨rfl, rfl⟩ (fun r2 m1 hm1 => ?_)
    obtain ⟨rfl, hr2⟩ := hm1
    refine z_if_eq X dX8_join_11 21 (by decide) (by omega) (fun h11 => ?_) (fun h11 => ?_)
    · refine z_iconst X dX8_join_21 ?_
      refine z_ireturn (st := []) X rfl hQ dX8_join_22 ⟨rfl, _, rfl, ?_⟩
      exfalso; omega
    · refine z_iload_n X dX8_join_14 rfl ?_
      refine z_callSi X (As := [_]) dX8_join_15 m_X8_isDrawer s_X8_isDrawer l_X8_150 (c_X8_isDrawer (zg E) hf0) rfl rfl (Nat.le_of_ble_eq_true rfl) ⟨Nat.le_of_ble_eq_true rfl, Nat.le_of_ble_eq_true rfl⟩ ⟨Nat.le_of_ble_eq_true rfl, Nat.le_of_ble_eq_true rfl⟩ ⟨rfl, rfl⟩ (fun r3 m1 hm1 => ?_)
      obtain ⟨rfl, hr3⟩ := hm1
      refine z_if_ne X dX8_join_18 23 (by decide) (by omega) (fun h18 => ?_) (fun h18 => ?_)
      · refine z_aload_n X dX8_join_23 rfl ?_
        refine z_getR X dX8_join_24 f_X8_30 rfl (by first | assumption | exact zbigA.o (by assumption)) (by assumption) ?_
        refine z_iload_n X dX8_join_27 rfl ?_
        refine z_iald X (k) dX8_join_28 (by omega) (by assumption) (by omega) (by omega) ?_
        refine z_bipush X dX8_join_29 (by decide) ?_
        refine z_icmp_eq X dX8_join_31 45 (by decide) (by omega) (by omega) (fun h31 => ?_) (fun h31 => ?_)
        · refine z_bipush X dX8_join_45 (by decide) ?_
          refine z_ireturn (st := []) X rfl hQ dX8_join_47 ⟨rfl, _, rfl, ?_⟩
          exact none3 (by omega)
        · refine z_aload_n X dX8_join_34 rfl ?_
          refine z_getR X dX8_join_35 f_X8_30 rfl (by first | assumption | exact zbigA.o (by assumption)) (by assumption) ?_
          refine z_iload_n X dX8_join_38 rfl ?_
          refine z_iald X (l) dX8_join_39 (by omega) (by assumption) (by omega) (by omega) ?_
          refine z_bipush X dX8_join_40 (by decide) ?_
          refine z_icmp_ne X dX8_join_42 48 (by decide) (by omega) (by omega) (fun h42 => ?_) (fun h42 => ?_)
          · rcases hkr.h7 with ⟨h0, _⟩ | ⟨x, e0, x7, x8, x9, xb⟩
            · exact absurd h0 (by omega)
            rcases hlr.h7 with ⟨h0, _⟩ | ⟨y, e1, y7, y8, y9, yb⟩
            · exact absurd h0 (by omega)
            obtain ⟨o1, o2, o3, o4⟩ := ho.2.1 k x (by omega) e0
            obtain ⟨p1, p2, p3, p4⟩ := ho.2.1 l y (by omega) e1
            have sp : sp_join σ (k : Int) (l : Int) (t : Int) = if x.1 ≠ y.1 ∨ x.2.2.1 ≠ y.2.1 then (-5, σ) else ((y.2.2.1 : Int) - (x.2.1 : Int), wD σ (zup (sD σ) t (some (x.1, x.2.1, y.2.2.1, zjoin x.2.2.2 y.2.2.2)))) := by
              unfold sp_join
              rw [if_neg hout, Int.toNat_natCast, Int.toNat_natCast, Int.toNat_natCast, e0, e1]
            refine z_aload_n X dX8_join_48 rfl ?_
            refine z_getR X dX8_join_49 f_X8_30 rfl (by first | assumption | exact zbigA.o (by assumption)) (by assumption) ?_
            refine z_iload_n X dX8_join_52 rfl ?_
            refine z_iald X (k) dX8_join_53 (by omega) (by assumption) (by omega) (by omega) ?_
            refine z_aload_n X dX8_join_54 rfl ?_
            refine z_getR X dX8_join_55 f_X8_30 rfl (by first | assumption | exact zbigA.o (by assumption)) (by assumption) ?_
            refine z_iload_n X dX8_join_58 rfl ?_
            refine z_iald X (l) dX8_join_59 (by omega) (by assumption) (by omega) (by omega) ?_
            refine z_icmp_ne X dX8_join_60 78 (by decide) (by omega) (by omega) (fun h60 => ?_) (fun h60 => ?_)
            · refine z_bipush X dX8_join_78 (by decide) ?_
              refine z_ireturn (st := []) X rfl hQ dX8_join_80 ⟨rfl, _, rfl, ?_⟩
              rw [sp, if_pos (by omega)]
              exact ⟨hm, zmm.r, rfl⟩
            · refine z_aload_n X dX8_join_63 rfl ?_
              refine z_getR X dX8_join_64 f_X8_36 rfl (by first | assumption | exact zbigA.o (by assumption)) (by assumption) ?_
              refine z_iload_n X dX8_join_67 rfl ?_
              refine z_iald X (k) dX8_join_68 (by omega) (by assumption) (by omega) (by omega) ?_
              refine z_aload_n X dX8_join_69 rfl ?_
              refine z_getR X dX8_join_70 f_X8_33 rfl (by first | assumption | exact zbigA.o (by assumption)) (by assumption) ?_
              refine z_iload_n X dX8_join_73 rfl ?_
              refine z_iald X (l) dX8_join_74 (by omega) (by assumption) (by omega) (by omega) ?_
              refine z_icmp_eq X dX8_join_75 81 (by decide) (by omega) (by omega) (fun h75 => ?_) (fun h75 => ?_)
              · refine z_aload_n X dX8_join_81 rfl ?_
                refine z_getR X dX8_join_82 f_X8_33 rfl (by first | assumption | exact zbigA.o (by assumption)) (by assumption) ?_
                refine z_iload_n X dX8_join_85 rfl ?_
                refine z_iald X (k) dX8_join_86 (by omega) (by assumption) (by omega) (by omega) ?_
                refine z_istore X dX8_join_87 (fun y => [_, _, _, _, some (vi y), _, _]) (by decide) (fun _ => rfl) (fun vi0 hvi => ?_)
                refine z_aload_n X dX8_join_89 rfl ?_
                refine z_getR X dX8_join_90 f_X8_36 rfl (by first | assumption | exact zbigA.o (by assumption)) (by assumption) ?_
                refine z_iload_n X dX8_join_93 rfl ?_
                refine z_iald X (l) dX8_join_94 (by omega) (by assumption) (by omega) (by omega) ?_
                refine z_istore X dX8_join_95 (fun y => [_, _, _, _, _, some (vi y), _]) (by decide) (fun _ => rfl) (fun vj hvj => ?_)
                refine z_aload_n X dX8_join_97 rfl ?_
                refine z_getR X dX8_join_98 f_X8_30 rfl (by first | assumption | exact zbigA.o (by assumption)) (by assumption) ?_
                refine z_iload_n X dX8_join_101 rfl ?_
                refine z_iald X (k) dX8_join_102 (by omega) (by assumption) (by omega) (by omega) ?_
                refine z_istore X dX8_join_103 (fun y => [_, _, _, _, _, _, some (vi y)]) (by decide) (fun _ => rfl) (fun vs hvs => ?_)
                obtain ⟨xp, xq, xbb, xt⟩ := xb
                obtain ⟨yp, yq, ybb, yt⟩ := yb
                obtain ⟨b1, b2, b3, b4⟩ := id o4
                obtain ⟨c1, c2, c3, c4⟩ := id p4
                have bt := o4.t (by omega)
                have ct := p4.t (by omega)
                have f1 := bt.mul c2
                have f2 := f1.mul c3
                have f3 := b1.mul b3
                have f4 := f3.mul ct
                have hF : zsP q (fun x => x = 55 ∨ x = 56 ∨ x = 57 ∨ x = 58 ∨ x = 59) m m := zsP.rfl'
                refine z_aload_n X dX8_join_105 rfl ?_
                refine z_iconst X dX8_join_106 ?_
                refine z_iload_n X dX8_join_107 rfl ?_
                refine z_imul X dX8_join_108 ?_
                refine z_iconst X dX8_join_109 ?_
                refine z_iadd X dX8_join_110 ?_
                refine z_iconst X dX8_join_111 ?_
                refine z_iload_n X dX8_join_112 rfl ?_
                refine z_imul X dX8_join_113 ?_
                refine z_iconst X dX8_join_114 ?_
                refine z_iadd X dX8_join_115 ?_
                refine z_bipush X dX8_join_116 (by decide) ?_
                refine z_callVv X (As := [_, _, _]) dX8_join_118 m_X8_multiply i_X8_multiply l_X8_140 (c_X8_multiply (zg E) (a := 4 * k + 3) (b := 4 * l + 1) (t := 55) hA (by omega) (by omega) rfl (by omega) (by omega) (by omega) (by omega) (by omega) xt yq bt c2 (by omega)) (by first | assumption | exact zbigA.o (by assumption)) rfl rfl rfl (Nat.le_of_ble_eq_true rfl) ⟨Nat.le_of_ble_eq_true rfl, Nat.le_of_ble_eq_true rfl⟩ ⟨Nat.le_of_ble_eq_true rfl, Nat.le_of_ble_eq_true rfl⟩ ⟨rfl, rfl⟩ (fun m1 hm => ?_)
                obtain ⟨h1, hf⟩ := hm
                have xp := xp.k hf (by omega)
                have xq := xq.k hf (by omega)
                have xbb := xbb.k hf (by omega)
                have xt := xt.k hf (by omega)
                have yp := yp.k hf (by omega)
                have yq := yq.k hf (by omega)
                have ybb := ybb.k hf (by omega)
                have yt := yt.k hf (by omega)
                have hF := hF.k hf (fun x h => by omega)
                refine z_aload_n X dX8_join_121 rfl ?_
                refine z_bipush X dX8_join_122 (by decide) ?_
                refine z_iconst X dX8_join_124 ?_
                refine z_iload_n X dX8_join_125 rfl ?_
                refine z_imul X dX8_join_126 ?_
                refine z_iconst X dX8_join_127 ?_
                refine z_iadd X dX8_join_128 ?_
                refine z_bipush X dX8_join_129 (by decide) ?_
                refine z_callVv X (As := [_, _, _]) dX8_join_131 m_X8_multiply i_X8_multiply l_X8_140 (c_X8_multiply (zg E) (a := 55) (b := 4 * l + 2) (t := 56) hA rfl (by omega) rfl (by omega) (by omega) (by omega) (by omega) (by omega) h1 ybb f1 c3 (by omega)) (by first | assumption | exact zbigA.o (by assumption)) rfl rfl rfl (Nat.le_of_ble_eq_true rfl) ⟨Nat.le_of_ble_eq_true rfl, Nat.le_of_ble_eq_true rfl⟩ ⟨Nat.le_of_ble_eq_true rfl, Nat.le_of_ble_eq_true rfl⟩ ⟨rfl, rfl⟩ (fun m2 hm => ?_)
                obtain ⟨h2, hf⟩ := hm
                have xp := xp.k hf (by omega)
                have xq := xq.k hf (by omega)
                have xbb := xbb.k hf (by omega)
                have xt := xt.k hf (by omega)
                have yp := yp.k hf (by omega)
                have yq := yq.k hf (by omega)
                have ybb := ybb.k hf (by omega)
                have yt := yt.k hf (by omega)
                have hF := hF.k hf (fun x h => by omega)
                refine z_aload_n X dX8_join_134 rfl ?_
                refine z_iconst X dX8_join_135 ?_
                refine z_iload_n X dX8_join_136 rfl ?_
                refine z_imul X dX8_join_137 ?_
                refine z_iconst X dX8_join_138 ?_
                refine z_iload_n X dX8_join_139 rfl ?_
                refine z_imul X dX8_join_140 ?_
                refine z_iconst X dX8_join_141 ?_
                refine z_iadd X dX8_join_142 ?_
                refine z_bipush X dX8_join_143 (by decide) ?_
                refine z_callVv X (As := [_, _, _]) dX8_join_145 m_X8_multiply i_X8_multiply l_X8_140 (c_X8_multiply (zg E) (a := 4 * k) (b := 4 * k + 2) (t := 55) hA (by omega) (by omega) rfl (by omega) (by omega) (by omega) (by omega) (by omega) xp xbb b1 b3 (by omega)) (by first | assumption | exact zbigA.o (by assumption)) rfl rfl rfl (Nat.le_of_ble_eq_true rfl) ⟨Nat.le_of_ble_eq_true rfl, Nat.le_of_ble_eq_true rfl⟩ ⟨Nat.le_of_ble_eq_true rfl, Nat.le_of_ble_eq_true rfl⟩ ⟨rfl, rfl⟩ (fun m3 hm => ?_)
                obtain ⟨h1, hf⟩ := hm
                have xp := xp.k hf (by omega)
                have xq := xq.k hf (by omega)
                have xbb := xbb.k hf (by omega)
                have xt := xt.k hf (by omega)
                have yp := yp.k hf (by omega)
                have yq := yq.k hf (by omega)
                have ybb := ybb.k hf (by omega)
                have yt := yt.k hf (by omega)
                have h2 := h2.k hf (by omega)
                have hF := hF.k hf (fun x h => by omega)
                refine z_aload_n X dX8_join_148 rfl ?_
                refine z_bipush X dX8_join_149 (by decide) ?_
                refine z_iconst X dX8_join_151 ?_
                refine z_iload_n X dX8_join_152 rfl ?_
                refine z_imul X dX8_join_153 ?_
                refine z_iconst X dX8_join_154 ?_
                refine z_iadd X dX8_join_155 ?_
                refine z_bipush X dX8_join_156 (by decide) ?_
                refine z_callVv X (As := [_, _, _]) dX8_join_158 m_X8_multiply i_X8_multiply l_X8_140 (c_X8_multiply (zg E) (a := 55) (b := 4 * l + 3) (t := 57) hA rfl (by omega) rfl (by omega) (by omega) (by omega) (by omega) (by omega) h1 yt f3 ct (by omega)) (by first | assumption | exact zbigA.o (by assumption)) rfl rfl rfl (Nat.le_of_ble_eq_true rfl) ⟨Nat.le_of_ble_eq_true rfl, Nat.le_of_ble_eq_true rfl⟩ ⟨Nat.le_of_ble_eq_true rfl, Nat.le_of_ble_eq_true rfl⟩ ⟨rfl, rfl⟩ (fun m4 hm => ?_)
                obtain ⟨h3, hf⟩ := hm
                have xp := xp.k hf (by omega)
                have xq := xq.k hf (by omega)
                have xbb := xbb.k hf (by omega)
                have xt := xt.k hf (by omega)
                have yp := yp.k hf (by omega)
                have yq := yq.k hf (by omega)
                have ybb := ybb.k hf (by omega)
                have yt := yt.k hf (by omega)
                have h2 := h2.k hf (by omega)
                have hF := hF.k hf (fun x h => by omega)
                refine z_aload_n X dX8_join_161 rfl ?_
                refine z_bipush X dX8_join_162 (by decide) ?_
                refine z_bipush X dX8_join_164 (by decide) ?_
                refine z_iconst X dX8_join_166 ?_
                refine z_callVv X (As := [_, _, _]) dX8_join_167 m_X8_add i_X8_add l_X8_144 (c_X8_add (zg E) (s := 56) (b := 57) hA rfl rfl (by omega) (by omega) (by omega) (Or.inl rfl) h2 h3 (f2.mono (by omega)) (f4.mono (by omega)) (Or.inl ⟨rfl, rfl⟩)) (by first | assumption | exact zbigA.o (by assumption)) rfl rfl rfl (Nat.le_of_ble_eq_true rfl) ⟨Nat.le_of_ble_eq_true rfl, Nat.le_of_ble_eq_true rfl⟩ ⟨Nat.le_of_ble_eq_true rfl, Nat.le_of_ble_eq_true rfl⟩ ⟨rfl, rfl⟩ (fun m5 hm => ?_)
                obtain ⟨h2, hf⟩ := hm
                have xp := xp.k hf (by omega)
                have xq := xq.k hf (by omega)
                have xbb := xbb.k hf (by omega)
                have xt := xt.k hf (by omega)
                have yp := yp.k hf (by omega)
                have yq := yq.k hf (by omega)
                have ybb := ybb.k hf (by omega)
                have yt := yt.k hf (by omega)
                have hF := hF.k hf (fun x h => by omega)
                refine z_aload_n X dX8_join_170 rfl ?_
                refine z_iconst X dX8_join_171 ?_
                refine z_iload_n X dX8_join_172 rfl ?_
                refine z_imul X dX8_join_173 ?_
                refine z_iconst X dX8_join_174 ?_
                refine z_iload_n X dX8_join_175 rfl ?_
                refine z_imul X dX8_join_176 ?_
                refine z_bipush X dX8_join_177 (by decide) ?_
                refine z_callVv X (As := [_, _, _]) dX8_join_179 m_X8_multiply i_X8_multiply l_X8_140 (c_X8_multiply (zg E) (a := 4 * k) (b := 4 * l) (t := 55) hA (by omega) (by omega) rfl (by omega) (by omega) (by omega) (by omega) (by omega) xp yp b1 c1 (by omega)) (by first | assumption | exact zbigA.o (by assumption)) rfl rfl rfl (Nat.le_of_ble_eq_true rfl) ⟨Nat.le_of_ble_eq_true rfl, Nat.le_of_ble_eq_true rfl⟩ ⟨Nat.le_of_ble_eq_true rfl, Nat.le_of_ble_eq_true rfl⟩ ⟨rfl, rfl⟩ (fun m6 hm => ?_)
                obtain ⟨h1, hf⟩ := hm
                have xp := xp.k hf (by omega)
                have xq := xq.k hf (by omega)
                have xbb := xbb.k hf (by omega)
                have xt := xt.k hf (by omega)
                have yp := yp.k hf (by omega)
                have yq := yq.k hf (by omega)
                have ybb := ybb.k hf (by omega)
                have yt := yt.k hf (by omega)
                have h2 := h2.k hf (by omega)
                have hF := hF.k hf (fun x h => by omega)
                refine z_aload_n X dX8_join_182 rfl ?_
                refine z_iconst X dX8_join_183 ?_
                refine z_iload_n X dX8_join_184 rfl ?_
                refine z_imul X dX8_join_185 ?_
                refine z_iconst X dX8_join_186 ?_
                refine z_iadd X dX8_join_187 ?_
                refine z_iconst X dX8_join_188 ?_
                refine z_iload_n X dX8_join_189 rfl ?_
                refine z_imul X dX8_join_190 ?_
                refine z_iconst X dX8_join_191 ?_
                refine z_iadd X dX8_join_192 ?_
                refine z_bipush X dX8_join_193 (by decide) ?_
                refine z_callVv X (As := [_, _, _]) dX8_join_195 m_X8_multiply i_X8_multiply l_X8_140 (c_X8_multiply (zg E) (a := 4 * k + 1) (b := 4 * l + 1) (t := 57) hA (by omega) (by omega) rfl (by omega) (by omega) (by omega) (by omega) (by omega) xq yq b2 c2 (by omega)) (by first | assumption | exact zbigA.o (by assumption)) rfl rfl rfl (Nat.le_of_ble_eq_true rfl) ⟨Nat.le_of_ble_eq_true rfl, Nat.le_of_ble_eq_true rfl⟩ ⟨Nat.le_of_ble_eq_true rfl, Nat.le_of_ble_eq_true rfl⟩ ⟨rfl, rfl⟩ (fun m7 hm => ?_)
                obtain ⟨h3, hf⟩ := hm
                have xp := xp.k hf (by omega)
                have xq := xq.k hf (by omega)
                have xbb := xbb.k hf (by omega)
                have xt := xt.k hf (by omega)
                have yp := yp.k hf (by omega)
                have yq := yq.k hf (by omega)
                have ybb := ybb.k hf (by omega)
                have yt := yt.k hf (by omega)
                have h2 := h2.k hf (by omega)
                have h1 := h1.k hf (by omega)
                have hF := hF.k hf (fun x h => by omega)
                refine z_aload_n X dX8_join_198 rfl ?_
                refine z_iconst X dX8_join_199 ?_
                refine z_iload_n X dX8_join_200 rfl ?_
                refine z_imul X dX8_join_201 ?_
                refine z_iconst X dX8_join_202 ?_
                refine z_iadd X dX8_join_203 ?_
                refine z_iconst X dX8_join_204 ?_
                refine z_iload_n X dX8_join_205 rfl ?_
                refine z_imul X dX8_join_206 ?_
                refine z_iconst X dX8_join_207 ?_
                refine z_iadd X dX8_join_208 ?_
                refine z_bipush X dX8_join_209 (by decide) ?_
                refine z_callVv X (As := [_, _, _]) dX8_join_211 m_X8_multiply i_X8_multiply l_X8_140 (c_X8_multiply (zg E) (a := 4 * k + 2) (b := 4 * l + 2) (t := 58) hA (by omega) (by omega) rfl (by omega) (by omega) (by omega) (by omega) (by omega) xbb ybb b3 c3 (by omega)) (by first | assumption | exact zbigA.o (by assumption)) rfl rfl rfl (Nat.le_of_ble_eq_true rfl) ⟨Nat.le_of_ble_eq_true rfl, Nat.le_of_ble_eq_true rfl⟩ ⟨Nat.le_of_ble_eq_true rfl, Nat.le_of_ble_eq_true rfl⟩ ⟨rfl, rfl⟩ (fun m8 hm => ?_)
                obtain ⟨h4', hf⟩ := hm
                have h2 := h2.k hf (by omega)
                have h1 := h1.k hf (by omega)
                have h3 := h3.k hf (by omega)
                have hF := hF.k hf (fun x h => by omega)
                have hF := hF.mono (T := fun x => (4 * t ≤ x ∧ x < 4 * t + 4) ∨ x = 55 ∨ x = 56 ∨ x = 57 ∨ x = 58 ∨ x = 59) (fun x h => Or.inr h)
                refine z_aload_n X dX8_join_214 rfl ?_
                refine z_bipush X dX8_join_215 (by decide) ?_
                refine z_iconst X dX8_join_217 ?_
                refine z_iload_n X dX8_join_218 rfl ?_
                refine z_imul X dX8_join_219 ?_
                refine z_callVv X (As := [_, _]) dX8_join_220 m_X8_copy i_X8_copy l_X8_81 (c_X8_copy (zg E) (a := 55) (b := 4 * t) hA rfl (by omega) (by omega) (by omega) (by omega) h1) (by first | assumption | exact zbigA.o (by assumption)) rfl rfl rfl (Nat.le_of_ble_eq_true rfl) ⟨Nat.le_of_ble_eq_true rfl, Nat.le_of_ble_eq_true rfl⟩ ⟨Nat.le_of_ble_eq_true rfl, Nat.le_of_ble_eq_true rfl⟩ ⟨rfl, rfl⟩ (fun m9 hm => ?_)
                obtain ⟨w1, hf⟩ := hm
                have h2 := h2.k hf (by omega)
                have h3 := h3.k hf (by omega)
                have h4' := h4'.k hf (by omega)
                have hF := hF.k hf (fun x h => by omega)
                refine z_aload_n X dX8_join_223 rfl ?_
                refine z_bipush X dX8_join_224 (by decide) ?_
                refine z_iconst X dX8_join_226 ?_
                refine z_iload_n X dX8_join_227 rfl ?_
                refine z_imul X dX8_join_228 ?_
                refine z_iconst X dX8_join_229 ?_
                refine z_iadd X dX8_join_230 ?_
                refine z_callVv X (As := [_, _]) dX8_join_231 m_X8_copy i_X8_copy l_X8_81 (c_X8_copy (zg E) (a := 57) (b := 4 * t + 1) hA rfl (by omega) (by omega) (by omega) (by omega) h3) (by first | assumption | exact zbigA.o (by assumption)) rfl rfl rfl (Nat.le_of_ble_eq_true rfl) ⟨Nat.le_of_ble_eq_true rfl, Nat.le_of_ble_eq_true rfl⟩ ⟨Nat.le_of_ble_eq_true rfl, Nat.le_of_ble_eq_true rfl⟩ ⟨rfl, rfl⟩ (fun m10 hm => ?_)
                obtain ⟨w2, hf⟩ := hm
                have h2 := h2.k hf (by omega)
                have w1 := w1.k hf (by omega)
                have h4' := h4'.k hf (by omega)
                have hF := hF.k hf (fun x h => by omega)
                refine z_aload_n X dX8_join_234 rfl ?_
                refine z_bipush X dX8_join_235 (by decide) ?_
                refine z_iconst X dX8_join_237 ?_
                refine z_iload_n X dX8_join_238 rfl ?_
                refine z_imul X dX8_join_239 ?_
                refine z_iconst X dX8_join_240 ?_
                refine z_iadd X dX8_join_241 ?_
                refine z_callVv X (As := [_, _]) dX8_join_242 m_X8_copy i_X8_copy l_X8_81 (c_X8_copy (zg E) (a := 58) (b := 4 * t + 2) hA rfl (by omega) (by omega) (by omega) (by omega) h4') (by first | assumption | exact zbigA.o (by assumption)) rfl rfl rfl (Nat.le_of_ble_eq_true rfl) ⟨Nat.le_of_ble_eq_true rfl, Nat.le_of_ble_eq_true rfl⟩ ⟨Nat.le_of_ble_eq_true rfl, Nat.le_of_ble_eq_true rfl⟩ ⟨rfl, rfl⟩ (fun m11 hm => ?_)
                obtain ⟨w3, hf⟩ := hm
                have h2 := h2.k hf (by omega)
                have w1 := w1.k hf (by omega)
                have w2 := w2.k hf (by omega)
                have hF := hF.k hf (fun x h => by omega)
                refine z_aload_n X dX8_join_245 rfl ?_
                refine z_bipush X dX8_join_246 (by decide) ?_
                refine z_iconst X dX8_join_248 ?_
                refine z_iload_n X dX8_join_249 rfl ?_
                refine z_imul X dX8_join_250 ?_
                refine z_iconst X dX8_join_251 ?_
                refine z_iadd X dX8_join_252 ?_
                refine z_callVv X (As := [_, _]) dX8_join_253 m_X8_copy i_X8_copy l_X8_81 (c_X8_copy (zg E) (a := 56) (b := 4 * t + 3) hA rfl (by omega) (by omega) (by omega) (by omega) h2) (by first | assumption | exact zbigA.o (by assumption)) rfl rfl rfl (Nat.le_of_ble_eq_true rfl) ⟨Nat.le_of_ble_eq_true rfl, Nat.le_of_ble_eq_true rfl⟩ ⟨Nat.le_of_ble_eq_true rfl, Nat.le_of_ble_eq_true rfl⟩ ⟨rfl, rfl⟩ (fun m12 hm => ?_)
                obtain ⟨w4, hf⟩ := hm
                have w1 := w1.k hf (by omega)
                have w2 := w2.k hf (by omega)
                have w3 := w3.k hf (by omega)
                have hF := hF.k hf (fun x h => by omega)
                refine z_aload_n X dX8_join_256 rfl ?_
                refine z_getR X dX8_join_257 f_X8_30 rfl (by first | assumption | exact zbigA.o (by assumption)) (by assumption) ?_
                refine z_iload_n X dX8_join_260 rfl ?_
                refine z_iload X dX8_join_261 rfl ?_
                refine z_iast X (t) dX8_join_263 (by omega) (by assumption) (by omega) (by omega) ?_
                refine z_aload_n X dX8_join_264 rfl ?_
                refine z_getR X dX8_join_265 f_X8_33 rfl (by first | assumption | exact zbigA.o (by assumption)) (by assumption) ?_
                refine z_iload_n X dX8_join_268 rfl ?_
                refine z_iload X dX8_join_269 rfl ?_
                refine z_iast X (t) dX8_join_271 (by omega) (by assumption) (by omega) (by omega) ?_
                refine z_aload_n X dX8_join_272 rfl ?_
                refine z_getR X dX8_join_273 f_X8_36 rfl (by first | assumption | exact zbigA.o (by assumption)) (by assumption) ?_
                refine z_iload_n X dX8_join_276 rfl ?_
                refine z_iload X dX8_join_277 rfl ?_
                refine z_iast X (t) dX8_join_279 (by omega) (by assumption) (by omega) (by omega) ?_
                refine z_iload X dX8_join_280 rfl ?_
                refine z_iload X dX8_join_282 rfl ?_
                refine z_isub X dX8_join_284 ?_
                refine z_ireturn (st := []) X rfl hQ dX8_join_285 ⟨rfl, _, rfl, ?_⟩
                rw [sp, if_neg (by omega)]
                have ew4 : x.2.2.2.2.2.2 * y.2.2.2.2.1 * y.2.2.2.2.2.1 + x.2.2.2.1 * x.2.2.2.2.2.1 * y.2.2.2.2.2.2 = (zjoin x.2.2.2 y.2.2.2).2.2.2 := by unfold zjoin; dsimp only; grind
                rw [ew4] at w4
                refine ⟨hm.dr (x := some _) (by omega) ⟨by rw [zms_nq _ _ _ _ _ (by omega), zms_nq _ _ _ _ _ (by omega), zms_same]; exact hvs.trans x7, by rw [zms_nq _ _ _ _ _ (by omega), zms_same]; exact hvi.trans x8, by rw [zms_same]; exact hvj.trans y9, ((w1.w (by omega)).w (by omega)).w (by omega), ((w2.w (by omega)).w (by omega)).w (by omega), ((w3.w (by omega)).w (by omega)).w (by omega), ((w4.w (by omega)).w (by omega)).w (by omega)⟩ (fun a j h1 h2 => ?_) (fun j hj => ?_) (fun y h1 h2 => ?_), ((hF.mm.w (by omega)).w (by omega)).w (by omega), by show _ = (y.2.2.1 : Int) - (x.2.1 : Int); omega⟩
                · rw [zms_ne _ _ _ _ (by omega), zms_ne _ _ _ _ (by omega), zms_ne _ _ _ _ (by omega)]
                  exact hF.1 a j (by omega)
                · rw [zms_nq _ _ _ _ _ (by omega), zms_nq _ _ _ _ _ (by omega), zms_nq _ _ _ _ _ (by omega)]
                  exact hF.1 q j (by omega)
                · exact (((hF.2 y (by omega)).t (zSq_nq (by omega))).t (zSq_nq (by omega))).t (zSq_nq (by omega))
              · refine z_bipush X dX8_join_78 (by decide) ?_
                refine z_ireturn (st := []) X rfl hQ dX8_join_80 ⟨rfl, _, rfl, ?_⟩
                rw [sp, if_pos (by omega)]
                exact ⟨hm, zmm.r, rfl⟩
          · refine z_bipush X dX8_join_45 (by decide) ?_
            refine z_ireturn (st := []) X rfl hQ dX8_join_47 ⟨rfl, _, rfl, ?_⟩
            exact none3 (by omega)
      · refine z_iconst X dX8_join_21 ?_
        refine z_ireturn (st := []) X rfl hQ dX8_join_22 ⟨rfl, _, rfl, ?_⟩
        exfalso; omega
theorem c_X8_empty (G : zG) {A : zA} {m : zM} {q : Nat} {σ : zSt} {d : Int} (hA : zmodA A q) (hm : zMR q m σ) (ho : zStok σ) (hd : zi32 d) : zMet G k_X8_empty [vr q, vi d] A m (zpi A (fun r m' => zMR q m' (sp_empty σ d).2 ∧ zmm q m m' ∧ r = (sp_empty σ d).1)) := by
  obtain ⟨⟨hO0, f0, f1, f2, f3, f4, f5, f6, f7, f8, f9, f10, f11, f12, f16, f24, f25⟩, ⟨g1, g2, g3⟩, ⟨g4, g5, g6, g7, g8, g9⟩, ⟨g10, g11, g12, g13⟩, g14, g15, g16⟩ := id hA
  unfold zi32 at hd
  refine zMet.of RX8 rfl (by decide +kernel) (Nat.le_of_ble_eq_true rfl) [some (vr q), some (vi d)] rfl (fun E hG X hQ hNm => ?_)
  subst hG
  refine z_iload_n X dX8_empty_0 rfl ?_
  refine z_callSi X (As := [_]) dX8_empty_1 m_X8_isDrawer s_X8_isDrawer l_X8_150 (c_X8_isDrawer (zg E) hd) rfl rfl (Nat.le_of_ble_eq_true rfl) ⟨Nat.le_of_ble_eq_true rfl, Nat.le_of_ble_eq_true rfl⟩ ⟨Nat.le_of_ble_eq_true rfl, Nat.le_of_ble_eq_true rfl⟩ ⟨rfl, rfl⟩ (fun r1 m1 hm1 => ?_)
  obtain ⟨rfl, hr1⟩ := hm1
  refine z_if_ne X dX8_empty_4 9 (by decide) (by omega) (fun h4 => ?_) (fun h4 => ?_)
  · obtain ⟨k, rfl⟩ : ∃ k : Nat, d = (k : Int) := ⟨d.toNat, by omega⟩
    have hkr := hm.2.1 k (by omega)
    have bk : -6 ≤ m (q + 7) k ∧ m (q + 7) k < 6 := by
      rcases hkr.h7 with ⟨h, e⟩ | ⟨y, e, h1, _⟩
      · omega
      · have := (ho.2.1 k y (by omega) e).1
        omega
    refine z_aload_n X dX8_empty_9 rfl ?_
    refine z_getR X dX8_empty_10 f_X8_30 rfl (by first | assumption | exact zbigA.o (by assumption)) (by assumption) ?_
    refine z_iload_n X dX8_empty_13 rfl ?_
    refine z_iald X (k) dX8_empty_14 (by omega) (by assumption) (by omega) (by omega) ?_
    refine z_bipush X dX8_empty_15 (by decide) ?_
    refine z_icmp_ne X dX8_empty_17 23 (by decide) (by omega) (by omega) (fun h17 => ?_) (fun h17 => ?_)
    · refine z_aload_n X dX8_empty_23 rfl ?_
      refine z_getR X dX8_empty_24 f_X8_30 rfl (by first | assumption | exact zbigA.o (by assumption)) (by assumption) ?_
      refine z_iload_n X dX8_empty_27 rfl ?_
      refine z_bipush X dX8_empty_28 (by decide) ?_
      refine z_iast X (k) dX8_empty_30 (by omega) (by assumption) (by omega) (by omega) ?_
      refine z_aload_n X dX8_empty_31 rfl ?_
      refine z_getR X dX8_empty_32 f_X8_36 rfl (by first | assumption | exact zbigA.o (by assumption)) (by assumption) ?_
      refine z_iload_n X dX8_empty_35 rfl ?_
      refine z_iald X (k) dX8_empty_36 (by omega) (by assumption) (by omega) (by omega) ?_
      refine z_aload_n X dX8_empty_37 rfl ?_
      refine z_getR X dX8_empty_38 f_X8_33 rfl (by first | assumption | exact zbigA.o (by assumption)) (by assumption) ?_
      refine z_iload_n X dX8_empty_41 rfl ?_
      refine z_iald X (k) dX8_empty_42 (by omega) (by assumption) (by omega) (by omega) ?_
      refine z_isub X dX8_empty_43 ?_
      refine z_ireturn (st := []) X rfl hQ dX8_empty_44 ⟨rfl, _, rfl, ?_⟩
      rcases hkr.h7 with ⟨h, e⟩ | ⟨y, e, h1, h2, h3, _⟩
      · omega
      · unfold sp_empty
        rw [if_neg (by omega), Int.toNat_natCast, e]
        refine ⟨hm.dr (x := none) (by omega) (zms_same _ _ _ _) (fun a j _ g => zms_ne _ _ _ _ (by omega)) (fun j _ => zms_nq _ _ _ _ _ (by omega)) (fun y _ _ => zSq_nq (by omega)), zmm.r.w (by omega), ?_⟩
        rw [zms_nq _ _ _ _ _ (by omega), zms_nq _ _ _ _ _ (by omega), h2, h3]
    · refine z_bipush X dX8_empty_20 (by decide) ?_
      refine z_ireturn (st := []) X rfl hQ dX8_empty_22 ⟨rfl, _, rfl, ?_⟩
      rcases hkr.h7 with ⟨h, e⟩ | ⟨y, e, h1, _⟩
      · unfold sp_empty
        rw [if_neg (by omega), Int.toNat_natCast, e]
        exact ⟨hm, zmm.r, rfl⟩
      · omega
  · refine z_iconst X dX8_empty_7 ?_
    refine z_ireturn (st := []) X rfl hQ dX8_empty_8 ⟨rfl, _, rfl, ?_⟩
    unfold sp_empty
    rw [if_pos (by omega)]
    exact ⟨hm, zmm.r, rfl⟩
theorem c_X8_span (G : zG) {A : zA} {m : zM} {q : Nat} {σ : zSt} {d w : Int} (hA : zmodA A q) (hm : zMR q m σ) (ho : zStok σ) (hd : zi32 d) (hw : zi32 w) : zMet G k_X8_span [vr q, vi d, vi w] A m (zpi A (fun r m' => m = m' ∧ r = sp_span σ d w)) := by
  obtain ⟨⟨hO0, f0, f1, f2, f3, f4, f5, f6, f7, f8, f9, f10, f11, f12, f16, f24, f25⟩, ⟨g1, g2, g3⟩, ⟨g4, g5, g6, g7, g8, g9⟩, ⟨g10, g11, g12, g13⟩, g14, g15, g16⟩ := id hA
  unfold zi32 at hd hw
  refine zMet.of RX8 rfl (by decide +kernel) (Nat.le_of_ble_eq_true rfl) [some (vr q), some (vi d), some (vi w)] rfl (fun E hG X hQ hNm => ?_)
  subst hG
  refine z_iload_n X dX8_span_0 rfl ?_
  refine z_callSi X (As := [_]) dX8_span_1 m_X8_isDrawer s_X8_isDrawer l_X8_150 (c_X8_isDrawer (zg E) hd) rfl rfl (Nat.le_of_ble_eq_true rfl) ⟨Nat.le_of_ble_eq_true rfl, Nat.le_of_ble_eq_true rfl⟩ ⟨Nat.le_of_ble_eq_true rfl, Nat.le_of_ble_eq_true rfl⟩ ⟨rfl, rfl⟩ (fun r1 m1 hm1 => ?_)
  obtain ⟨rfl, hr1⟩ := hm1
  refine z_if_ne X dX8_span_4 9 (by decide) (by omega) (fun h4 => ?_) (fun h4 => ?_)
  · refine z_iload_n X dX8_span_9 rfl ?_
    refine z_i2l X dX8_span_10 (by omega) ?_
    refine z_lconst X dX8_span_11 0 rfl ?_
    refine z_ldc2 X dX8_span_12 q_X8_159 (2) (by decide) ?_
    refine z_callSi X (As := [_, _, _]) dX8_span_15 m_X8_in s_X8_in l_X8_86 (c_X8_in (zg E) (by omega) (by omega) (by omega)) rfl rfl (Nat.le_of_ble_eq_true rfl) ⟨Nat.le_of_ble_eq_true rfl, Nat.le_of_ble_eq_true rfl⟩ ⟨Nat.le_of_ble_eq_true rfl, Nat.le_of_ble_eq_true rfl⟩ ⟨rfl, rfl⟩ (fun r2 m1 hm1 => ?_)
    obtain ⟨rfl, hr2⟩ := hm1
    refine z_if_ne X dX8_span_18 24 (by decide) (by omega) (fun h18 => ?_) (fun h18 => ?_)
    · obtain ⟨k, rfl⟩ : ∃ k : Nat, d = (k : Int) := ⟨d.toNat, by omega⟩
      have hkr := hm.2.1 k (by omega)
      have bk : -6 ≤ m (q + 7) k ∧ m (q + 7) k < 6 := by
        rcases hkr.h7 with ⟨h, e⟩ | ⟨y, e, h1, _⟩
        · omega
        · have := (ho.2.1 k y (by omega) e).1
          omega
      refine z_aload_n X dX8_span_24 rfl ?_
      refine z_getR X dX8_span_25 f_X8_30 rfl (by first | assumption | exact zbigA.o (by assumption)) (by assumption) ?_
      refine z_iload_n X dX8_span_28 rfl ?_
      refine z_iald X (k) dX8_span_29 (by omega) (by assumption) (by omega) (by omega) ?_
      refine z_bipush X dX8_span_30 (by decide) ?_
      refine z_icmp_ne X dX8_span_32 40 (by decide) (by omega) (by omega) (fun h32 => ?_) (fun h32 => ?_)
      · refine z_iload_n X dX8_span_40 rfl ?_
        refine z_if_ne X dX8_span_41 53 (by decide) (by omega) (fun h41 => ?_) (fun h41 => ?_)
        · refine z_iload_n X dX8_span_53 rfl ?_
          refine z_iconst X dX8_span_54 ?_
          refine z_icmp_ne X dX8_span_55 67 (by decide) (by omega) (by omega) (fun h55 => ?_) (fun h55 => ?_)
          · refine z_aload_n X dX8_span_67 rfl ?_
            refine z_getR X dX8_span_68 f_X8_36 rfl (by first | assumption | exact zbigA.o (by assumption)) (by assumption) ?_
            refine z_iload_n X dX8_span_71 rfl ?_
            refine z_iald X (k) dX8_span_72 (by omega) (by assumption) (by omega) (by omega) ?_
            refine z_ireturn (st := []) X rfl hQ dX8_span_73 ⟨rfl, _, rfl, ?_⟩
            refine ⟨rfl, ?_⟩
            rcases hkr.h7 with ⟨h, e⟩ | ⟨y, e, e5, e6, e7, _⟩
            · first
                | (exfalso; omega)
                | (unfold sp_span; rw [if_neg (by omega), if_neg (by omega), Int.toNat_natCast, e])
            · unfold sp_span
              rw [if_neg (by omega), if_neg (by omega), Int.toNat_natCast, e]
              obtain ⟨y1, y2, y3, y4⟩ := y
              first
                | (exfalso; omega)
                | (show _ = if w = 0 then _ else _; rw [if_pos (by omega)]; exact e5)
                | (show _ = if w = 0 then _ else if w = 1 then _ else _; rw [if_neg (by omega), if_pos (by omega)]; exact e6)
                | (show _ = if w = 0 then _ else if w = 1 then _ else _; rw [if_neg (by omega), if_neg (by omega)]; exact e7)
          · refine z_aload_n X dX8_span_58 rfl ?_
            refine z_getR X dX8_span_59 f_X8_33 rfl (by first | assumption | exact zbigA.o (by assumption)) (by assumption) ?_
            refine z_iload_n X dX8_span_62 rfl ?_
            refine z_iald X (k) dX8_span_63 (by omega) (by assumption) (by omega) (by omega) ?_
            refine z_goto X dX8_span_64 73 (by decide) ?_
            refine z_ireturn (st := []) X rfl hQ dX8_span_73 ⟨rfl, _, rfl, ?_⟩
            refine ⟨rfl, ?_⟩
            rcases hkr.h7 with ⟨h, e⟩ | ⟨y, e, e5, e6, e7, _⟩
            · first
                | (exfalso; omega)
                | (unfold sp_span; rw [if_neg (by omega), if_neg (by omega), Int.toNat_natCast, e])
            · unfold sp_span
              rw [if_neg (by omega), if_neg (by omega), Int.toNat_natCast, e]
              obtain ⟨y1, y2, y3, y4⟩ := y
              first
                | (exfalso; omega)
                | (show _ = if w = 0 then _ else _; rw [if_pos (by omega)]; exact e5)
                | (show _ = if w = 0 then _ else if w = 1 then _ else _; rw [if_neg (by omega), if_pos (by omega)]; exact e6)
                | (show _ = if w = 0 then _ else if w = 1 then _ else _; rw [if_neg (by omega), if_neg (by omega)]; exact e7)
        · refine z_aload_n X dX8_span_44 rfl ?_
          refine z_getR X dX8_span_45 f_X8_30 rfl (by first | assumption | exact zbigA.o (by assumption)) (by assumption) ?_
          refine z_iload_n X dX8_span_48 rfl ?_
          refine z_iald X (k) dX8_span_49 (by omega) (by assumption) (by omega) (by omega) ?_
          refine z_goto X dX8_span_50 73 (by decide) ?_
          refine z_ireturn (st := []) X rfl hQ dX8_span_73 ⟨rfl, _, rfl, ?_⟩
          refine ⟨rfl, ?_⟩
          rcases hkr.h7 with ⟨h, e⟩ | ⟨y, e, e5, e6, e7, _⟩
          · first
              | (exfalso; omega)
              | (unfold sp_span; rw [if_neg (by omega), if_neg (by omega), Int.toNat_natCast, e])
          · unfold sp_span
            rw [if_neg (by omega), if_neg (by omega), Int.toNat_natCast, e]
            obtain ⟨y1, y2, y3, y4⟩ := y
            first
              | (exfalso; omega)
              | (show _ = if w = 0 then _ else _; rw [if_pos (by omega)]; exact e5)
              | (show _ = if w = 0 then _ else if w = 1 then _ else _; rw [if_neg (by omega), if_pos (by omega)]; exact e6)
              | (show _ = if w = 0 then _ else if w = 1 then _ else _; rw [if_neg (by omega), if_neg (by omega)]; exact e7)
      · refine z_bipush X dX8_span_35 (by decide) ?_
        refine z_goto X dX8_span_37 73 (by decide) ?_
        refine z_ireturn (st := []) X rfl hQ dX8_span_73 ⟨rfl, _, rfl, ?_⟩
        refine ⟨rfl, ?_⟩
        rcases hkr.h7 with ⟨h, e⟩ | ⟨y, e, e5, e6, e7, _⟩
        · first
            | (exfalso; omega)
            | (unfold sp_span; rw [if_neg (by omega), if_neg (by omega), Int.toNat_natCast, e])
        · unfold sp_span
          rw [if_neg (by omega), if_neg (by omega), Int.toNat_natCast, e]
          obtain ⟨y1, y2, y3, y4⟩ := y
          first
            | (exfalso; omega)
            | (show _ = if w = 0 then _ else _; rw [if_pos (by omega)]; exact e5)
            | (show _ = if w = 0 then _ else if w = 1 then _ else _; rw [if_neg (by omega), if_pos (by omega)]; exact e6)
            | (show _ = if w = 0 then _ else if w = 1 then _ else _; rw [if_neg (by omega), if_neg (by omega)]; exact e7)
    · refine z_bipush X dX8_span_21 (by decide) ?_
      refine z_ireturn (st := []) X rfl hQ dX8_span_23 ⟨rfl, _, rfl, ?_⟩
      refine ⟨rfl, ?_⟩
      unfold sp_span
      rw [if_neg (by omega), if_pos (by omega)]
  · refine z_iconst X dX8_span_7 ?_
    refine z_ireturn (st := []) X rfl hQ dX8_span_8 ⟨rfl, _, rfl, ?_⟩
    refine ⟨rfl, ?_⟩
    unfold sp_span
    rw [if_pos (by omega)]

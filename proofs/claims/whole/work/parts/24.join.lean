/-! Grinder.putTogether -/
theorem zout4 {m m1 m' : zM} {f g q : Nat} (h : zout m m1 f g) (hf : ∀ a j, a ≠ q → a ≠ q + 1 → a ≠ g + 3 → a ≠ g + 4 → m' a j = m1 a j) (hd : f ≤ q ∧ q + 1 < f + 9) : zout m m' f g := fun a j h1 h2 => (hf a j (by omega) (by omega) (by omega) (by omega)).trans (h a j h1 h2)
theorem c_X4_putTogether (G : zG) {A : zA} {m : zM} {d e f g n k : Nat} {x y : zq4} (hD : zspanA A d) (hE : zspanA A e) (hF0 : zspanA A f) (hG : zgrA A g) (hdg : d + 9 ≤ g ∨ g + 9 ≤ d) (heg : e + 9 ≤ g ∨ g + 9 ≤ e) (hfg : f + 9 ≤ g ∨ g + 9 ≤ f) (hdf : d = f ∨ d + 9 ≤ f ∨ f + 9 ≤ d) (hef : e = f ∨ e + 9 ≤ f ∨ f + 9 ≤ e) (hx : zok n x) (hy : zok k y) (hnk : n + k ≤ 100) (hsx : zspn m d x) (hsy : zspn m e y) :
    zMet G k_X4_putTogether [vr g, vr d, vr e, vr f] A m (zpv A (fun m' => zspn m' f (zjoin x y) ∧ (m' f 4 = 1 ∧ m' f 5 = m d 5 ∧ m' f 6 = m d 6 ∧ m' f 7 = m e 7) ∧ zout m m' f g)) := by
  obtain ⟨hD1, ⟨hD2, hD3, hD4, hD5⟩, db1, db2, db3, db4⟩ := id hD
  obtain ⟨hE1, ⟨hE2, hE3, hE4, hE5⟩, eb1, eb2, eb3, eb4⟩ := id hE
  obtain ⟨hF1, ⟨hF2, hF3, hF4, hF5⟩, fb1, fb2, fb3, fb4⟩ := id hF0
  obtain ⟨hG1, ⟨hG2, hG3, hG4, hG5⟩, hg1, hg2, hg3, hg4⟩ := id hG
  obtain ⟨xp, xq, xb, xt⟩ := hsx
  obtain ⟨yp, yq, yb, yt⟩ := hsy
  obtain ⟨x1, x2, x3, x4⟩ := id hx
  obtain ⟨y1, y2, y3, y4⟩ := id hy
  have xt7 := hx.t (by omega)
  have yt7 := hy.t (by omega)
  have hj := zok_join hx hy
  have jt7 := hj.t (by omega)
  have a1 := y2.mul y3
  have a2 := x1.mul x3
  have b1 := xt7.mul a1
  have b2 := yt7.mul a2
  have d5 : zfd m d 5 (m d 5) := rfl
  have d6 : zfd m d 6 (m d 6) := rfl
  have e7 : zfd m e 7 (m e 7) := rfl
  have hF : zout m m f g := fun _ _ _ _ => rfl
  refine zMet.of RX4 rfl (by decide +kernel) (Nat.le_of_ble_eq_true rfl) [some (vr g), some (vr d), some (vr e), some (vr f), none, none] rfl (fun E hG X hQ hNm => ?_)
  subst hG
  refine z_aload_n X dX4_putTogether_0 rfl ?_
  refine z_getR X dX4_putTogether_1 f_X4_14 rfl (by assumption) (by assumption) ?_
  refine z_aload_n X dX4_putTogether_4 rfl ?_
  refine z_getR X dX4_putTogether_5 f_X4_64 rfl (by assumption) (by assumption) ?_
  refine z_aload_n X dX4_putTogether_8 rfl ?_
  refine z_getR X dX4_putTogether_9 f_X4_34 rfl (by assumption) (by assumption) ?_
  refine z_callVv X (As := [_, _]) dX4_putTogether_12 m_X0_product i_X0_product l_X4_37 (c_X0_product (zg E) hg1 eb2 eb3 (by omega) (by omega) yq yb yq.lt yb.lt (by omega)) (by first | assumption | exact zbigA.o (by assumption)) rfl rfl rfl (Nat.le_of_ble_eq_true rfl) ⟨Nat.le_of_ble_eq_true rfl, Nat.le_of_ble_eq_true rfl⟩ ⟨Nat.le_of_ble_eq_true rfl, Nat.le_of_ble_eq_true rfl⟩ ⟨rfl, rfl⟩ (fun m1 hm => ?_)
  obtain ⟨ha, hf⟩ := hm
  have xp := xp.k hf (by omega)
  have xq := xq.k hf (by omega)
  have xb := xb.k hf (by omega)
  have xt := xt.k hf (by omega)
  have yp := yp.k hf (by omega)
  have yq := yq.k hf (by omega)
  have yb := yb.k hf (by omega)
  have yt := yt.k hf (by omega)
  have d5 := d5.k hf (by omega)
  have d6 := d6.k hf (by omega)
  have e7 := e7.k hf (by omega)
  have hF := hF.k hf (by omega)
  refine z_aload_n X dX4_putTogether_15 rfl ?_
  refine z_getR X dX4_putTogether_16 f_X4_23 rfl (by assumption) (by assumption) ?_
  refine z_aload_n X dX4_putTogether_19 rfl ?_
  refine z_getR X dX4_putTogether_20 f_X4_58 rfl (by assumption) (by assumption) ?_
  refine z_aload_n X dX4_putTogether_23 rfl ?_
  refine z_getR X dX4_putTogether_24 f_X4_14 rfl (by assumption) (by assumption) ?_
  refine z_callVv X (As := [_, _]) dX4_putTogether_27 m_X0_product i_X0_product l_X4_37 (c_X0_product (zg E) hg3 db4 hg1 (by omega) (by omega) xt ha (xt7.lt (N := (48 * n + 7) / 30 + 1) (by omega)) (a1.lt (N := (48 * k) / 30 + 1) (by omega)) (by omega)) (by first | assumption | exact zbigA.o (by assumption)) rfl rfl rfl (Nat.le_of_ble_eq_true rfl) ⟨Nat.le_of_ble_eq_true rfl, Nat.le_of_ble_eq_true rfl⟩ ⟨Nat.le_of_ble_eq_true rfl, Nat.le_of_ble_eq_true rfl⟩ ⟨rfl, rfl⟩ (fun m2 hm => ?_)
  obtain ⟨h1, hf⟩ := hm
  have xp := xp.k hf (by omega)
  have xq := xq.k hf (by omega)
  have xb := xb.k hf (by omega)
  have xt := xt.k hf (by omega)
  have yp := yp.k hf (by omega)
  have yq := yq.k hf (by omega)
  have yb := yb.k hf (by omega)
  have yt := yt.k hf (by omega)
  have d5 := d5.k hf (by omega)
  have d6 := d6.k hf (by omega)
  have e7 := e7.k hf (by omega)
  have hF := hF.k hf (by omega)
  have ha := ha.k hf (by omega)
  refine z_aload_n X dX4_putTogether_30 rfl ?_
  refine z_getR X dX4_putTogether_31 f_X4_14 rfl (by assumption) (by assumption) ?_
  refine z_aload_n X dX4_putTogether_34 rfl ?_
  refine z_getR X dX4_putTogether_35 f_X4_29 rfl (by assumption) (by assumption) ?_
  refine z_aload_n X dX4_putTogether_38 rfl ?_
  refine z_getR X dX4_putTogether_39 f_X4_34 rfl (by assumption) (by assumption) ?_
  refine z_callVv X (As := [_, _]) dX4_putTogether_42 m_X0_product i_X0_product l_X4_37 (c_X0_product (zg E) hg1 db1 db3 (by omega) (by omega) xp xb xp.lt xb.lt (by omega)) (by first | assumption | exact zbigA.o (by assumption)) rfl rfl rfl (Nat.le_of_ble_eq_true rfl) ⟨Nat.le_of_ble_eq_true rfl, Nat.le_of_ble_eq_true rfl⟩ ⟨Nat.le_of_ble_eq_true rfl, Nat.le_of_ble_eq_true rfl⟩ ⟨rfl, rfl⟩ (fun m3 hm => ?_)
  obtain ⟨ha, hf⟩ := hm
  have xp := xp.k hf (by omega)
  have xq := xq.k hf (by omega)
  have xb := xb.k hf (by omega)
  have xt := xt.k hf (by omega)
  have yp := yp.k hf (by omega)
  have yq := yq.k hf (by omega)
  have yb := yb.k hf (by omega)
  have yt := yt.k hf (by omega)
  have d5 := d5.k hf (by omega)
  have d6 := d6.k hf (by omega)
  have e7 := e7.k hf (by omega)
  have hF := hF.k hf (by omega)
  have h1 := h1.k hf (by omega)
  refine z_aload_n X dX4_putTogether_45 rfl ?_
  refine z_getR X dX4_putTogether_46 f_X4_26 rfl (by assumption) (by assumption) ?_
  refine z_aload_n X dX4_putTogether_49 rfl ?_
  refine z_getR X dX4_putTogether_50 f_X4_58 rfl (by assumption) (by assumption) ?_
  refine z_aload_n X dX4_putTogether_53 rfl ?_
  refine z_getR X dX4_putTogether_54 f_X4_14 rfl (by assumption) (by assumption) ?_
  refine z_callVv X (As := [_, _]) dX4_putTogether_57 m_X0_product i_X0_product l_X4_37 (c_X0_product (zg E) hg4 eb4 hg1 (by omega) (by omega) yt ha (yt7.lt (N := (48 * k + 7) / 30 + 1) (by omega)) (a2.lt (N := (48 * n) / 30 + 1) (by omega)) (by omega)) (by first | assumption | exact zbigA.o (by assumption)) rfl rfl rfl (Nat.le_of_ble_eq_true rfl) ⟨Nat.le_of_ble_eq_true rfl, Nat.le_of_ble_eq_true rfl⟩ ⟨Nat.le_of_ble_eq_true rfl, Nat.le_of_ble_eq_true rfl⟩ ⟨rfl, rfl⟩ (fun m4 hm => ?_)
  obtain ⟨h2, hf⟩ := hm
  have xp := xp.k hf (by omega)
  have xq := xq.k hf (by omega)
  have xb := xb.k hf (by omega)
  have xt := xt.k hf (by omega)
  have yp := yp.k hf (by omega)
  have yq := yq.k hf (by omega)
  have yb := yb.k hf (by omega)
  have yt := yt.k hf (by omega)
  have d5 := d5.k hf (by omega)
  have d6 := d6.k hf (by omega)
  have e7 := e7.k hf (by omega)
  have hF := hF.k hf (by omega)
  have h1 := h1.k hf (by omega)
  have ha := ha.k hf (by omega)
  refine z_aload_n X dX4_putTogether_60 rfl ?_
  refine z_getR X dX4_putTogether_61 f_X4_23 rfl (by assumption) (by assumption) ?_
  refine z_aload_n X dX4_putTogether_64 rfl ?_
  refine z_getR X dX4_putTogether_65 f_X4_26 rfl (by assumption) (by assumption) ?_
  refine z_callVv X (As := [_]) dX4_putTogether_68 m_X0_plus i_X0_plus l_X4_61 (c_X0_plus (zg E) hg3 hg4 (by omega) h1 h2 (b2.lt (by omega)) (jt7.lt (by omega))) (by first | assumption | exact zbigA.o (by assumption)) rfl rfl rfl (Nat.le_of_ble_eq_true rfl) ⟨Nat.le_of_ble_eq_true rfl, Nat.le_of_ble_eq_true rfl⟩ ⟨Nat.le_of_ble_eq_true rfl, Nat.le_of_ble_eq_true rfl⟩ ⟨rfl, rfl⟩ (fun m5 hm => ?_)
  obtain ⟨h1, hf⟩ := hm
  have xp := xp.k hf (by omega)
  have xq := xq.k hf (by omega)
  have xb := xb.k hf (by omega)
  have xt := xt.k hf (by omega)
  have yp := yp.k hf (by omega)
  have yq := yq.k hf (by omega)
  have yb := yb.k hf (by omega)
  have yt := yt.k hf (by omega)
  have d5 := d5.k hf (by omega)
  have d6 := d6.k hf (by omega)
  have e7 := e7.k hf (by omega)
  have hF := hF.k hf (by omega)
  refine z_aload_n X dX4_putTogether_71 rfl ?_
  refine z_aload_n X dX4_putTogether_72 rfl ?_
  refine z_getR X dX4_putTogether_73 f_X4_29 rfl (by assumption) (by assumption) ?_
  refine z_aload_n X dX4_putTogether_76 rfl ?_
  refine z_getR X dX4_putTogether_77 f_X4_29 rfl (by assumption) (by assumption) ?_
  refine z_aload_n X dX4_putTogether_80 rfl ?_
  refine z_getR X dX4_putTogether_81 f_X4_29 rfl (by assumption) (by assumption) ?_
  refine z_callVv X (As := [_, _, _]) dX4_putTogether_84 m_X4_multiplyInto i_X4_multiplyInto l_X4_67 (c_X4_multiplyInto (zg E) hG db1 eb1 fb1 (by omega) (by omega) (by omega) xp yp xp.lt yp.lt (by omega) (hj.1.lt (by omega))) (by first | assumption | exact zbigA.o (by assumption)) rfl rfl rfl (Nat.le_of_ble_eq_true rfl) ⟨Nat.le_of_ble_eq_true rfl, Nat.le_of_ble_eq_true rfl⟩ ⟨Nat.le_of_ble_eq_true rfl, Nat.le_of_ble_eq_true rfl⟩ ⟨rfl, rfl⟩ (fun m6 hm => ?_)
  obtain ⟨jp, hf⟩ := hm
  have hF := zout4 hF hf (by omega)
  have k1 : ∀ (a N : Nat) (v : Int), zbi m5 a N v → a ≠ f + 1 ∧ a ≠ f + 1 + 1 ∧ a ≠ g + 3 ∧ a ≠ g + 4 ∧ a + 1 ≠ f + 1 ∧ a + 1 ≠ f + 1 + 1 ∧ a + 1 ≠ g + 3 ∧ a + 1 ≠ g + 4 → zbi m6 a N v := fun a N v h hd => h.fr (fun j => hf _ _ hd.1 hd.2.1 hd.2.2.1 hd.2.2.2.1) (fun j => hf _ _ hd.2.2.2.2.1 hd.2.2.2.2.2.1 hd.2.2.2.2.2.2.1 hd.2.2.2.2.2.2.2)
  have xq := k1 _ _ _ xq (by omega)
  have xb := k1 _ _ _ xb (by omega)
  have yq := k1 _ _ _ yq (by omega)
  have yb := k1 _ _ _ yb (by omega)
  have h1 := k1 _ _ _ h1 (by omega)
  have d5 : zfd m6 d 5 (m d 5) := (hf _ _ (by omega) (by omega) (by omega) (by omega)).trans d5
  have d6 : zfd m6 d 6 (m d 6) := (hf _ _ (by omega) (by omega) (by omega) (by omega)).trans d6
  have e7 : zfd m6 e 7 (m e 7) := (hf _ _ (by omega) (by omega) (by omega) (by omega)).trans e7
  refine z_aload_n X dX4_putTogether_87 rfl ?_
  refine z_aload_n X dX4_putTogether_88 rfl ?_
  refine z_getR X dX4_putTogether_89 f_X4_64 rfl (by assumption) (by assumption) ?_
  refine z_aload_n X dX4_putTogether_92 rfl ?_
  refine z_getR X dX4_putTogether_93 f_X4_64 rfl (by assumption) (by assumption) ?_
  refine z_aload_n X dX4_putTogether_96 rfl ?_
  refine z_getR X dX4_putTogether_97 f_X4_64 rfl (by assumption) (by assumption) ?_
  refine z_callVv X (As := [_, _, _]) dX4_putTogether_100 m_X4_multiplyInto i_X4_multiplyInto l_X4_67 (c_X4_multiplyInto (zg E) hG db2 eb2 fb2 (by omega) (by omega) (by omega) xq yq xq.lt yq.lt (by omega) (hj.2.1.lt (by omega))) (by first | assumption | exact zbigA.o (by assumption)) rfl rfl rfl (Nat.le_of_ble_eq_true rfl) ⟨Nat.le_of_ble_eq_true rfl, Nat.le_of_ble_eq_true rfl⟩ ⟨Nat.le_of_ble_eq_true rfl, Nat.le_of_ble_eq_true rfl⟩ ⟨rfl, rfl⟩ (fun m7 hm => ?_)
  obtain ⟨jq, hf⟩ := hm
  have hF := zout4 hF hf (by omega)
  have k1 : ∀ (a N : Nat) (v : Int), zbi m6 a N v → a ≠ f + 3 ∧ a ≠ f + 3 + 1 ∧ a ≠ g + 3 ∧ a ≠ g + 4 ∧ a + 1 ≠ f + 3 ∧ a + 1 ≠ f + 3 + 1 ∧ a + 1 ≠ g + 3 ∧ a + 1 ≠ g + 4 → zbi m7 a N v := fun a N v h hd => h.fr (fun j => hf _ _ hd.1 hd.2.1 hd.2.2.1 hd.2.2.2.1) (fun j => hf _ _ hd.2.2.2.2.1 hd.2.2.2.2.2.1 hd.2.2.2.2.2.2.1 hd.2.2.2.2.2.2.2)
  have xb := k1 _ _ _ xb (by omega)
  have yb := k1 _ _ _ yb (by omega)
  have h1 := k1 _ _ _ h1 (by omega)
  have jp := k1 _ _ _ jp (by omega)
  have d5 : zfd m7 d 5 (m d 5) := (hf _ _ (by omega) (by omega) (by omega) (by omega)).trans d5
  have d6 : zfd m7 d 6 (m d 6) := (hf _ _ (by omega) (by omega) (by omega) (by omega)).trans d6
  have e7 : zfd m7 e 7 (m e 7) := (hf _ _ (by omega) (by omega) (by omega) (by omega)).trans e7
  refine z_aload_n X dX4_putTogether_103 rfl ?_
  refine z_aload_n X dX4_putTogether_104 rfl ?_
  refine z_getR X dX4_putTogether_105 f_X4_34 rfl (by assumption) (by assumption) ?_
  refine z_aload_n X dX4_putTogether_108 rfl ?_
  refine z_getR X dX4_putTogether_109 f_X4_34 rfl (by assumption) (by assumption) ?_
  refine z_aload_n X dX4_putTogether_112 rfl ?_
  refine z_getR X dX4_putTogether_113 f_X4_34 rfl (by assumption) (by assumption) ?_
  refine z_callVv X (As := [_, _, _]) dX4_putTogether_116 m_X4_multiplyInto i_X4_multiplyInto l_X4_67 (c_X4_multiplyInto (zg E) hG db3 eb3 fb3 (by omega) (by omega) (by omega) xb yb xb.lt yb.lt (by omega) (hj.2.2.1.lt (by omega))) (by first | assumption | exact zbigA.o (by assumption)) rfl rfl rfl (Nat.le_of_ble_eq_true rfl) ⟨Nat.le_of_ble_eq_true rfl, Nat.le_of_ble_eq_true rfl⟩ ⟨Nat.le_of_ble_eq_true rfl, Nat.le_of_ble_eq_true rfl⟩ ⟨rfl, rfl⟩ (fun m8 hm => ?_)
  obtain ⟨jb, hf⟩ := hm
  have hF := zout4 hF hf (by omega)
  have k1 : ∀ (a N : Nat) (v : Int), zbi m7 a N v → a ≠ f + 5 ∧ a ≠ f + 5 + 1 ∧ a ≠ g + 3 ∧ a ≠ g + 4 ∧ a + 1 ≠ f + 5 ∧ a + 1 ≠ f + 5 + 1 ∧ a + 1 ≠ g + 3 ∧ a + 1 ≠ g + 4 → zbi m8 a N v := fun a N v h hd => h.fr (fun j => hf _ _ hd.1 hd.2.1 hd.2.2.1 hd.2.2.2.1) (fun j => hf _ _ hd.2.2.2.2.1 hd.2.2.2.2.2.1 hd.2.2.2.2.2.2.1 hd.2.2.2.2.2.2.2)
  have h1 := k1 _ _ _ h1 (by omega)
  have jp := k1 _ _ _ jp (by omega)
  have jq := k1 _ _ _ jq (by omega)
  have d5 : zfd m8 d 5 (m d 5) := (hf _ _ (by omega) (by omega) (by omega) (by omega)).trans d5
  have d6 : zfd m8 d 6 (m d 6) := (hf _ _ (by omega) (by omega) (by omega) (by omega)).trans d6
  have e7 : zfd m8 e 7 (m e 7) := (hf _ _ (by omega) (by omega) (by omega) (by omega)).trans e7
  refine z_aload_n X dX4_putTogether_119 rfl ?_
  refine z_getR X dX4_putTogether_120 f_X4_58 rfl (by assumption) (by assumption) ?_
  refine z_aload_n X dX4_putTogether_123 rfl ?_
  refine z_getR X dX4_putTogether_124 f_X4_23 rfl (by assumption) (by assumption) ?_
  refine z_callVv X (As := [_]) dX4_putTogether_127 m_X0_copy i_X0_copy l_X4_54 (c_X0_copy (zg E) fb4 hg3 (by omega) h1 (jt7.lt (by omega))) (by first | assumption | exact zbigA.o (by assumption)) rfl rfl rfl (Nat.le_of_ble_eq_true rfl) ⟨Nat.le_of_ble_eq_true rfl, Nat.le_of_ble_eq_true rfl⟩ ⟨Nat.le_of_ble_eq_true rfl, Nat.le_of_ble_eq_true rfl⟩ ⟨rfl, rfl⟩ (fun m9 hm => ?_)
  obtain ⟨jt, hf⟩ := hm
  have jp := jp.k hf (by omega)
  have jq := jq.k hf (by omega)
  have jb := jb.k hf (by omega)
  have d5 := d5.k hf (by omega)
  have d6 := d6.k hf (by omega)
  have e7 := e7.k hf (by omega)
  have hF := hF.k hf (by omega)
  have d5' : m9 d 5 = m d 5 := d5
  have d6' : m9 d 6 = m d 6 := d6
  have e7' : m9 e 7 = m e 7 := e7
  refine z_aload_n X dX4_putTogether_130 rfl ?_
  refine z_getI X dX4_putTogether_131 f_X4_71 rfl (by assumption) ?_
  refine z_istore X dX4_putTogether_134 (fun y => [_, _, _, _, some (vi y), _]) (by decide) (fun _ => rfl) (fun x4_134 hx4_134 => ?_)
  refine z_aload_n X dX4_putTogether_136 rfl ?_
  refine z_getI X dX4_putTogether_137 f_X4_41 rfl (by assumption) ?_
  refine z_istore X dX4_putTogether_140 (fun y => [_, _, _, _, _, some (vi y)]) (by decide) (fun _ => rfl) (fun x5_140 hx5_140 => ?_)
  refine z_aload_n X dX4_putTogether_142 rfl ?_
  refine z_iconst X dX4_putTogether_143 ?_
  refine z_putZ X dX4_putTogether_144 f_X4_74 (by first | exact Or.inl rfl | exact Or.inr rfl | omega) rfl rfl (by assumption) ?_
  refine z_aload_n X dX4_putTogether_147 rfl ?_
  refine z_aload_n X dX4_putTogether_148 rfl ?_
  refine z_getI X dX4_putTogether_149 f_X4_78 rfl (by assumption) ?_
  refine z_putI X dX4_putTogether_152 f_X4_78 rfl rfl (by assumption) ?_
  refine z_aload_n X dX4_putTogether_155 rfl ?_
  refine z_iload X dX4_putTogether_156 rfl ?_
  refine z_putI X dX4_putTogether_158 f_X4_71 rfl rfl (by assumption) ?_
  refine z_aload_n X dX4_putTogether_161 rfl ?_
  refine z_iload X dX4_putTogether_162 rfl ?_
  refine z_putI X dX4_putTogether_164 f_X4_41 rfl rfl (by assumption) ?_
  refine z_return (st := []) X rfl hQ dX4_putTogether_167 ⟨rfl, rfl, ?_⟩
  have w5 : zms m9 f 4 1 d 5 = m d 5 := (zms_nk _ _ _ _ _ (by omega)).trans d5'
  refine ⟨⟨(((jp.w (by omega)).w (by omega)).w (by omega)).w (by omega), (((jq.w (by omega)).w (by omega)).w (by omega)).w (by omega), (((jb.w (by omega)).w (by omega)).w (by omega)).w (by omega), (((jt.w (by omega)).w (by omega)).w (by omega)).w (by omega)⟩, ⟨by simp [zms], ?_, ?_, ?_⟩, (((hF.w (by omega)).w (by omega)).w (by omega)).w (by omega)⟩
  · rw [zms_nk _ _ _ _ _ (by omega), zms_nk _ _ _ _ _ (by omega), zms_same]; exact w5
  · rw [zms_nk _ _ _ _ _ (by omega), zms_same]; omega
  · rw [zms_same]; omega

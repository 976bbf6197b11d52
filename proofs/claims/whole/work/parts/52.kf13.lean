/-! root -/
def setE (s : aS) (k : Nat) (v : Int) : aS := (s.1, s.2.1, s.2.2.1, am_fu s.2.2.2.1 k v, s.2.2.2.2.1, s.2.2.2.2.2)
def incR (s : aS) : aS := (s.1, s.2.1, s.2.2.1 + 1, s.2.2.2.1, s.2.2.2.2.1, s.2.2.2.2.2)
def rtN (s : aS) (i bits : Nat) : Nat := isq ((s.2.1 i).2.1 * 2 ^ (2 * bits) / (s.2.1 i).2.2)
def rtX (s : aS) (i bits : Nat) : Nat := if rtN s i bits * rtN s i bits * (s.2.1 i).2.2 = (s.2.1 i).2.1 * 2 ^ (2 * bits) then 0 else 1
def rt1 (s : aS) (i bits : Nat) : aS := setE (aPut s 1 (rtN s i bits) (2 ^ bits)).2 (2 * s.2.2.1) (aPut s 1 (rtN s i bits) (2 ^ bits)).1
def rt2 (s : aS) (i bits : Nat) : aS := setE (aPut (rt1 s i bits) 1 (rtN s i bits + rtX s i bits) (2 ^ bits)).2 (2 * s.2.2.1 + 1) (aPut (rt1 s i bits) 1 (rtN s i bits + rtX s i bits) (2 ^ bits)).1
def aRoot (s : aS) (i bits : Nat) : Int × aS := if 40 ≤ s.2.2.1 ∨ 150 < s.1 + 2 then (-1, s) else ((s.2.2.1 : Int), incR (rt2 s i bits))
theorem aPut_k (s : aS) (sd : Int) (a b : Nat) : (aPut s sd a b).2.2.2 = s.2.2 ∧ (aPut s sd a b).2.1 ≤ s.1 + 1 ∧ s.1 ≤ (aPut s sd a b).2.1 := by
  unfold aPut
  split
  · exact ⟨rfl, Nat.le_succ _, Nat.le_refl _⟩
  · exact ⟨rfl, Nat.le_refl _, Nat.le_succ _⟩
theorem m_setNew (l : Launch) (g : am_G) {h : am_H} {s : aS} {r p : Nat} (w : kS h s) (b39 : 43 ≤ h.1) (wl : wN h 19 56 r) (hp : p ≤ 200) :
    am_Met l g yX4_setNewToLeftOverPower (am_W1 yX4_setNewToLeftOverPower cX4_setNewToLeftOverPower 2 none) 4 0 0 [.ref 0, vI (p : Int)] h (qN fun h1 => kS h1 s ∧ wN h1 15 56 r ∧ wN h1 17 56 (2 ^ p) ∧ gx h h1 [15, 16, 17, 18]) := by
  have h0 := w.1
  have t4 := w.2.2.2.2.1
  have ⟨n4, e4⟩ := t4.o
  have zl := wl.2.1
  have s1 : szn 1 ≤ 1 := szn_le.mpr (by decide)
  refine am_mk [some (.ref 0), some (vI (p : Int))] 0 rfl rfl (by decide +kernel) (fun x hl hg hC hT _ => ?_)
  refine am_aload0 hC dX4_setNewToLeftOverPower_0 ?_
  refine am_getf hC dX4_setNewToLeftOverPower_1 fX4_43 h0 rfl ?_
  refine am_aload0 hC dX4_setNewToLeftOverPower_4 ?_
  refine am_getf hC dX4_setNewToLeftOverPower_5 fX4_49 h0 rfl ?_
  refine am_V1_qN hC 3 dX4_setNewToLeftOverPower_8 kX4_156 (m_become _ _ t4 wl zl) e4 rfl (Nat.le_of_ble_eq_true rfl) (by decide) (by omega) (by omega) (fun h1 r => ?_)
  obtain ⟨w1, o1⟩ := r
  have v1 := w.w (by omega) o1 w1.cc (by omega)
  have k1 := v1.1
  have H1 : h1.1 = h.1 := o1.1
  have t6 := v1.2.2.2.2.2.1
  have ⟨n6, e6⟩ := t6.o
  have x12 := v1.2.2.2.2.2.2.2.2.1
  refine am_aload0 hC dX4_setNewToLeftOverPower_11 ?_
  refine am_getf hC dX4_setNewToLeftOverPower_12 fX4_46 k1 rfl ?_
  refine am_aload0 hC dX4_setNewToLeftOverPower_15 ?_
  refine am_getf hC dX4_setNewToLeftOverPower_16 fX4_36 k1 rfl ?_
  refine am_iload1 hC dX4_setNewToLeftOverPower_19 ?_
  refine am_V2_qN hC 3 dX4_setNewToLeftOverPower_20 kX4_220 (m_setShifted _ _ t6 x12 (by omega) (by omega) (by omega)) e6 rfl (Nat.le_of_ble_eq_true rfl) (by decide) (by omega) (by omega) (fun h2 r => ?_)
  obtain ⟨w2, o2⟩ := r
  rw [Nat.one_mul] at w2
  exact am_vret hC hT dX4_setNewToLeftOverPower_23 (by omega) (by omega) ⟨rfl, v1.w (by omega) o2 w2.cc (by omega), w1.kept o2 (by simp) (by simp), w2, (o1.gx.wk (by simp)).tr (o2.gx.wk (by simp))⟩
theorem m_setEnd (l : Launch) (g : am_G) {h : am_H} {s : aS} {r k : Nat} {v : Int} (w : kS h s) (b39 : 43 ≤ h.1) (hr : r < 40) (hk : k < 2) :
    am_Met l g yX4_setEnd (am_W1 yX4_setEnd cX4_setEnd 5 none) 1 0 0 [.ref 0, vI (r : Int), vI (k : Int), vI v] h (qN fun h1 => kS h1 (setE s (2 * r + k) v) ∧ gx h h1 [11]) := by
  have h0 := w.1
  have h2 := w.2.2.1
  refine am_mk [some (.ref 0), some (vI (r : Int)), some (vI (k : Int)), some (vI v), none] 1 rfl rfl (by decide +kernel) (fun x hl hg hC hT _ => ?_)
  refine am_iload1 hC dX4_setEnd_0 ?_
  refine am_iconst hC dX4_setEnd_1 ?_
  refine am_imul hC dX4_setEnd_2 ?_
  refine am_iload2 hC dX4_setEnd_3 ?_
  refine am_iadd hC dX4_setEnd_4 ?_
  refine am_istore4 hC dX4_setEnd_5 rfl ?_
  refine am_iload4 hC dX4_setEnd_7 ?_
  refine am_if_lt hC 30 dX4_setEnd_9 rfl (by omega) (fun c9 => ?_) (fun c9 => ?_)
  · exact absurd c9 (by omega)
  · refine am_iload4 hC dX4_setEnd_12 ?_
    refine am_aload0 hC dX4_setEnd_14 ?_
    refine am_getf hC dX4_setEnd_15 fX4_28 h0 rfl ?_
    refine am_alenI hC dX4_setEnd_18 h2 ?_
    refine am_icmp_ge hC 30 dX4_setEnd_19 rfl (by omega) (by omega) (fun c19 => ?_) (fun c19 => ?_)
    · exact absurd c19 (by omega)
    · refine am_aload0 hC dX4_setEnd_22 ?_
      refine am_getf hC dX4_setEnd_23 fX4_28 h0 rfl ?_
      refine am_iload4 hC dX4_setEnd_26 ?_
      refine am_iload3 hC dX4_setEnd_28 ?_
      refine am_iast hC dX4_setEnd_29 h2 (by omega) (by omega) ?_
      rw [show ((r : Int) * 2 + (k : Int)).toNat = 2 * r + k by omega]
      refine am_heap (fun H1 e1 => ?_)
      have g1 : gx h H1 [11] := by rw [e1]; exact gx_up _ _ _
      have N2 : H1.2 11 = _ := (congrArg (fun H => H.2 11) e1).trans (am_up_at _ _ _)
      clear e1
      exact am_vret hC hT dX4_setEnd_30 (by omega) (by omega) ⟨rfl, w.re (g1.wk (by simp)) b39 ((g1.2 0 (by omega) (by simp)).trans h0) N2 ((g1.2 12 (by omega) (by simp)).trans w.2.2.2.1), g1⟩
theorem bl_ge {a : Nat} (h : 0 < bl a) : 2 ^ (bl a - 1) ≤ a := by
  rcases Nat.lt_or_ge a (2 ^ (bl a - 1)) with c | c
  · have := bl_le.mpr c; omega
  · exact c
theorem bl_mul_ge {a b : Nat} (ha : 0 < bl a) (hb : 0 < bl b) : bl a + bl b ≤ bl (a * b) + 1 := by
  have h1 := Nat.mul_le_mul (bl_ge ha) (bl_ge hb)
  rw [← Nat.pow_add] at h1
  rcases Nat.lt_or_ge (bl (a * b)) (bl a - 1 + (bl b - 1) + 1) with c | c
  · have h2 := bl_le.mp (show bl (a * b) ≤ bl a - 1 + (bl b - 1) by omega)
    omega
  · omega
theorem m_leaveRoot (l : Launch) (g : am_G) {h : am_H} {s : aS} {f p : Nat} {u : aV} (w : kS h s) (b39 : 43 ≤ h.1) (F : fF h f u) (hf : ((f = 2 ∧ fpT f = 7 ∧ fpB f = 9) ∨ (51 ≤ f ∧ 51 ≤ fpT f ∧ 51 ≤ fpB f))) (hfb : fpE f < h.1) (ku : vOK u) (hp : p ≤ 200) :
    am_Met l g yX4_leaveRootInLeft (am_W1 yX4_leaveRootInLeft cX4_leaveRootInLeft 3 (some .boolean)) 6 0 0 [.ref 0, .ref f, vI (p : Int)] h (qI fun v h1 => v = (if isq (u.2.1 * 2 ^ (2 * p) / u.2.2) * isq (u.2.1 * 2 ^ (2 * p) / u.2.2) * u.2.2 = u.2.1 * 2 ^ (2 * p) then 1 else 0) ∧ kS h1 s ∧ wN h1 19 56 (isq (u.2.1 * 2 ^ (2 * p) / u.2.2)) ∧ isq (u.2.1 * 2 ^ (2 * p) / u.2.2) < 2 ^ 600 ∧ gx h h1 [15, 16, 17, 18, 19, 20, 21, 22, 25, 26, 27, 28, 29, 30]) := by
  have h0 := w.1
  have F1 := F.1
  obtain ⟨ku1, ku2, ku3, ku4, ku5⟩ := ku
  have cu := cap800 ku4
  have cu' := cap800 ku5
  have t6 := w.2.2.2.2.2.1
  have ⟨n6, e6⟩ := t6.o
  obtain ⟨T, hT0⟩ : ∃ T, T = u.2.1 * 2 ^ (2 * p) := ⟨_, rfl⟩
  obtain ⟨N, hN⟩ : ∃ N, N = T / u.2.2 := ⟨_, rfl⟩
  obtain ⟨q, hq⟩ : ∃ q, q = isq N := ⟨_, rfl⟩
  have bT : bl T ≤ 1200 := by
    rw [hT0]
    refine bl_le.mpr ?_
    rw [show (1200 : Nat) = 800 + 400 from rfl, Nat.pow_add]
    have h1 := bl_le.mp ku4
    exact Nat.lt_of_lt_of_le (Nat.mul_lt_mul_of_pos_right h1 (Nat.two_pow_pos _)) (Nat.mul_le_mul_left _ (Nat.pow_le_pow_right (by decide) (by omega)))
  have bN : bl N ≤ 1200 := Nat.le_trans (bl_mono (by rw [hN]; exact Nat.div_le_self _ _)) bT
  have zT := szn_bl T
  have zN := szn_bl N
  have sq := (isq_s N).1
  rw [← hq] at sq
  have qq : q * q * u.2.2 ≤ T := Nat.le_trans (Nat.mul_le_mul_right _ sq) (by rw [hN]; exact Nat.div_mul_le_self _ _)
  have bq : bl q ≤ 1200 := Nat.le_trans (bl_mono (by rcases Nat.eq_zero_or_pos q with c | c; (· omega); (· exact Nat.le_mul_of_pos_left q c))) (Nat.le_trans (bl_mono sq) bN)
  have bq2 : q < 2 ^ 600 := by rw [hq]; exact isq_b (by omega)
  have zq : szn q ≤ 20 := szn_le.mpr (Nat.lt_of_lt_of_le bq2 (by decide +kernel))
  have zqq : szn (q * q) ≤ 39 := Nat.le_trans (szn_mono sq) (by omega)
  have zfit : szn (q * q) + szn u.2.2 ≤ 56 := by
    have a1 := szn_bl (q * q)
    have a2 := szn_bl u.2.2
    have a3 := bl_mono qq
    rcases Nat.eq_zero_or_pos (bl (q * q)) with c | c
    · omega
    · rcases Nat.eq_zero_or_pos (bl u.2.2) with d | d
      · omega
      · have := bl_mul_ge c d
        omega
  rw [← hT0, ← hN, ← hq]
  refine am_mk [some (.ref 0), some (.ref f), some (vI (p : Int))] 0 rfl rfl (by decide +kernel) (fun x hl hg hC hT _ => ?_)
  refine am_aload0 hC dX4_leaveRootInLeft_0 ?_
  refine am_getf hC dX4_leaveRootInLeft_1 fX4_46 h0 rfl ?_
  refine am_aload1 hC dX4_leaveRootInLeft_4 ?_
  refine am_getf hC dX4_leaveRootInLeft_5 fX4_91 F1 rfl ?_
  refine am_iconst hC dX4_leaveRootInLeft_8 ?_
  refine am_iload2 hC dX4_leaveRootInLeft_9 ?_
  refine am_imul hC dX4_leaveRootInLeft_10 ?_
  rw [show (2 : Int) * (p : Int) = ((2 * p : Nat) : Int) by omega]
  refine am_V2_qN hC 3 dX4_leaveRootInLeft_11 kX4_220 (m_setShifted _ _ t6 F.2.1 (by omega) (by omega) (by omega)) e6 rfl (Nat.le_of_ble_eq_true rfl) (by decide) (by omega) (by omega) (fun h1 r => ?_)
  obtain ⟨w1, o1⟩ := r
  rw [← hT0] at w1
  have v1 := w.w (by omega) o1 w1.cc (by omega)
  have k1 := v1.1
  have H1 : h1.1 = h.1 := o1.1
  have Fa := F.on o1 (by intro j _ _; simp; omega)
  have fa := Fa.1
  have d1 := v1.2.2.2.2.2.2.2.2.2.2.1
  refine am_aload0 hC dX4_leaveRootInLeft_14 ?_
  refine am_getf hC dX4_leaveRootInLeft_15 fX4_61 k1 rfl ?_
  refine am_aload0 hC dX4_leaveRootInLeft_18 ?_
  refine am_getf hC dX4_leaveRootInLeft_19 fX4_46 k1 rfl ?_
  refine am_aload1 hC dX4_leaveRootInLeft_22 ?_
  refine am_getf hC dX4_leaveRootInLeft_23 fX4_94 fa rfl ?_
  refine am_V2_qN hC 0 dX4_leaveRootInLeft_26 kX4_150 (m_divide _ _ d1 w1 Fa.2.2 (by omega) (by omega) (by omega) (by omega) (by omega) (by omega) (by omega) (by omega) (by omega)) d1.1 rfl (Nat.le_of_ble_eq_true rfl) (by decide) (by omega) (by omega) (fun h2 r => ?_)
  obtain ⟨d2, q2, -, o2⟩ := r
  rw [← hN] at q2
  have v2 := v1.dv (by omega) o2 d2
  have k2 := v2.1
  have d20 := d2.1
  have H2 : h2.1 = h.1 := o2.1.trans H1
  have Fb := Fa.on o2 (by intro j _ _; simp; omega)
  have w12 := w1.kept o2 (by simp) (by simp)
  have t10 := v2.2.2.2.2.2.2.2.1
  have ⟨n10, e10⟩ := t10.o
  refine am_aload0 hC dX4_leaveRootInLeft_29 ?_
  refine am_getf hC dX4_leaveRootInLeft_30 fX4_52 k2 rfl ?_
  refine am_aload0 hC dX4_leaveRootInLeft_33 ?_
  refine am_getf hC dX4_leaveRootInLeft_34 fX4_61 k2 rfl ?_
  refine am_getf hC dX4_leaveRootInLeft_37 fX4_153 d20 rfl ?_
  refine am_V1_qN hC 3 dX4_leaveRootInLeft_40 kX4_156 (m_become _ _ t10 q2 (by omega)) e10 rfl (Nat.le_of_ble_eq_true rfl) (by decide) (by omega) (by omega) (fun h3 r => ?_)
  obtain ⟨w3, o3⟩ := r
  have v3 := v2.w (by omega) o3 w3.cc (by omega)
  have k3 := v3.1
  have H3 : h3.1 = h.1 := o3.1.trans H2
  have Fc := Fb.on o3 (by intro j _ _; simp; omega)
  have w13 := w12.kept o3 (by simp) (by simp)
  refine am_aload0 hC dX4_leaveRootInLeft_43 ?_
  refine am_V0_qN hC 4 dX4_leaveRootInLeft_44 kX4_224 (m_floorRoot _ _ v3 (by omega) w3 (by omega)) k3 rfl (Nat.le_of_ble_eq_true rfl) (by decide) (by omega) (by omega) (fun h4 r => ?_)
  obtain ⟨v4, w84, w104, g4⟩ := r
  rw [← hq] at w84
  have k4 := v4.1
  have b4 := g4.1
  have H4 : 43 ≤ h4.1 := by omega
  have Fd := Fc.gx g4 (by omega) (by intro j _ _; simp; omega)
  have w14 := w13.gx g4 (by omega) (by simp) (by simp)
  have t4 := v4.2.2.2.2.1
  have ⟨n4, e4⟩ := t4.o
  refine am_aload0 hC dX4_leaveRootInLeft_47 ?_
  refine am_getf hC dX4_leaveRootInLeft_48 fX4_43 k4 rfl ?_
  refine am_aload0 hC dX4_leaveRootInLeft_51 ?_
  refine am_getf hC dX4_leaveRootInLeft_52 fX4_49 k4 rfl ?_
  refine am_aload0 hC dX4_leaveRootInLeft_55 ?_
  refine am_getf hC dX4_leaveRootInLeft_56 fX4_49 k4 rfl ?_
  refine am_V2_qN hC 3 dX4_leaveRootInLeft_59 kX4_97 (m_setProduct _ _ t4 w84 w84 (by omega) (by omega) (by omega)) e4 rfl (Nat.le_of_ble_eq_true rfl) (by decide) (by omega) (by omega) (fun h5 r => ?_)
  obtain ⟨w5, o5⟩ := r
  have v5 := v4.w (by omega) o5 w5.cc (by omega)
  have k5 := v5.1
  have H5 : h5.1 = h4.1 := o5.1
  have Fe := Fd.on o5 (by intro j _ _; simp; omega)
  have fe := Fe.1
  have w15 := w14.kept o5 (by simp) (by simp)
  have w85 := w84.kept o5 (by simp) (by simp)
  have t10' := v5.2.2.2.2.2.2.2.1
  have ⟨n10', e10'⟩ := t10'.o
  refine am_aload0 hC dX4_leaveRootInLeft_62 ?_
  refine am_getf hC dX4_leaveRootInLeft_63 fX4_52 k5 rfl ?_
  refine am_aload0 hC dX4_leaveRootInLeft_66 ?_
  refine am_getf hC dX4_leaveRootInLeft_67 fX4_43 k5 rfl ?_
  refine am_aload1 hC dX4_leaveRootInLeft_70 ?_
  refine am_getf hC dX4_leaveRootInLeft_71 fX4_94 fe rfl ?_
  refine am_V2_qN hC 3 dX4_leaveRootInLeft_74 kX4_97 (m_setProduct _ _ t10' w5 Fe.2.2 zfit (by omega) (by omega)) e10' rfl (Nat.le_of_ble_eq_true rfl) (by decide) (by omega) (by omega) (fun h6 r => ?_)
  obtain ⟨w6, o6⟩ := r
  have v6 := v5.w (by omega) o6 w6.cc (by omega)
  have k6 := v6.1
  have w16 := w15.kept o6 (by simp) (by simp)
  have w86 := w85.kept o6 (by simp) (by simp)
  have cs := cmpN_s (q * q * u.2.2) T
  have G : gx h h6 [15, 16, 17, 18, 19, 20, 21, 22, 25, 26, 27, 28, 29, 30] := (o1.gx.wk (by simp)).tr ((o2.gx.wk (by simp)).tr ((o3.gx.wk (by simp)).tr ((g4.wk (by simp)).tr ((o5.gx.wk (by simp)).tr (o6.gx.wk (by simp))))))
  refine am_aload0 hC dX4_leaveRootInLeft_77 ?_
  refine am_getf hC dX4_leaveRootInLeft_78 fX4_52 k6 rfl ?_
  refine am_aload0 hC dX4_leaveRootInLeft_81 ?_
  refine am_getf hC dX4_leaveRootInLeft_82 fX4_46 k6 rfl ?_
  refine am_V1_pI hC 3 dX4_leaveRootInLeft_85 kX4_108 (m_compareWith _ _ w6 w16) w6.o rfl (Nat.le_of_ble_eq_true rfl) (by decide) (by omega) (by omega) ?_
  refine am_if_ne hC 95 dX4_leaveRootInLeft_88 rfl (by omega) (fun c88 => ?_) (fun c88 => ?_)
  · refine am_iconst hC dX4_leaveRootInLeft_95 ?_
    first
      | exact am_zret hC hT dX4_leaveRootInLeft_96 (by omega) (by omega) (by omega) ⟨_, rfl, by rw [if_pos (by omega)], v6, w86, bq2, G⟩
      | exact am_zret hC hT dX4_leaveRootInLeft_96 (by omega) (by omega) (by omega) ⟨_, rfl, by rw [if_neg (by omega)], v6, w86, bq2, G⟩
  · refine am_iconst hC dX4_leaveRootInLeft_91 ?_
    refine am_goto hC 96 dX4_leaveRootInLeft_92 rfl ?_
    first
      | exact am_zret hC hT dX4_leaveRootInLeft_96 (by omega) (by omega) (by omega) ⟨_, rfl, by rw [if_pos (by omega)], v6, w86, bq2, G⟩
      | exact am_zret hC hT dX4_leaveRootInLeft_96 (by omega) (by omega) (by omega) ⟨_, rfl, by rw [if_neg (by omega)], v6, w86, bq2, G⟩
theorem root_fin {x : am_X} {h : am_H} {s : aS} {i r1 P k0 z0 : Nat} {iv : Int} {u : aV} {Pr : Int → am_H → Prop} (hC : am_C x cX4_root yX4_root.cls 8 13 260) (hT : am_T x (some .int) (qI Pr) 13 260) (w : kS h s) (h47 : 51 ≤ h.1) (ok : aOK s) (F : fF h r1 u) (r1a : ((r1 = 2 ∧ fpT r1 = 7 ∧ fpB r1 = 9) ∨ (51 ≤ r1 ∧ 51 ≤ fpT r1 ∧ 51 ≤ fpB r1))) (r1b : fpE r1 < h.1) (ku : vOK u) (hP : P ≤ 200) (hu : u = s.2.1 i) (h40 : s.2.2.1 < 40) (h150 : s.1 + 2 ≤ 150) (hk0 : k0 ≤ 1) (hz0 : z0 ≤ 6)
    (fin : ∀ h1, kS h1 (incR (rt2 s i P)) → gx h h1 K39 → Pr (s.2.2.1 : Int) h1) : am_W x 67 k0 z0 h [some (.ref 0), some (vI iv), some (vI (P : Int)), some (.ref r1), none] [] := by
  have h0 := w.1
  obtain ⟨q, hq⟩ : ∃ q, q = rtN s i P := ⟨_, rfl⟩
  have hq' : isq (u.2.1 * 2 ^ (2 * P) / u.2.2) = q := by rw [hq, rtN, ← hu]
  have hX : rtX s i P = if q * q * u.2.2 = u.2.1 * 2 ^ (2 * P) then 0 else 1 := by rw [rtX, ← hq, ← hu]
  have p2 : szn (2 ^ P) ≤ 7 := szn_le.mpr (Nat.lt_of_le_of_lt (Nat.pow_le_pow_right (by decide) hP) (by decide +kernel))
  have p20 : ∀ r, r ≤ 2 ^ 600 → szn r ≤ 20 := fun r hr => szn_le.mpr (Nat.lt_of_le_of_lt hr (by decide +kernel))
  obtain ⟨s1, hs1⟩ : ∃ s1, s1 = rt1 s i P := ⟨_, rfl⟩
  have ak := aPut_k s 1 q (2 ^ P)
  have n1 : s1.1 ≤ s.1 + 1 := by rw [hs1, rt1, ← hq]; exact ak.2.1
  have e1 : s1.2.2.1 = s.2.2.1 := by rw [hs1, rt1, ← hq]; show (aPut s 1 q (2 ^ P)).2.2.2.1 = _; rw [ak.1]
  have tail : ∀ (H : am_H) (t : Int) (k z : Nat), k ≤ 6 → z ≤ 125 → kS H s1 → wN H 19 56 (q + rtX s i P) → q + rtX s i P ≤ 2 ^ 600 → gx h H K39 → am_W x 114 k z H [some (.ref 0), some (vI iv), some (vI (P : Int)), some (.ref r1), some (vI t)] [] := by
    intro H t k z hk hz v w8 hle o
    have k0' := v.1
    have b1 := o.1
    have H47 : 51 ≤ H.1 := by omega
    have ak2 := aPut_k s1 1 (q + rtX s i P) (2 ^ P)
    have z1 := p20 _ hle
    refine am_aload0 hC dX4_root_114 ?_
    refine am_iload2 hC dX4_root_115 ?_
    refine am_V1_qN hC 4 dX4_root_116 kX4_132 (m_setNew _ _ v (by omega) w8 hP) k0' rfl (Nat.le_of_ble_eq_true rfl) (by decide) (by omega) (by omega) (fun h1 r => ?_)
    obtain ⟨v1, w14, w16, g1⟩ := r
    have k1 := v1.1
    have bb1 := g1.1
    refine am_aload0 hC dX4_root_119 ?_
    refine am_aload0 hC dX4_root_120 ?_
    refine am_getf hC dX4_root_121 fX4_122 k1 rfl ?_
    refine am_iconst hC dX4_root_124 ?_
    refine am_aload0 hC dX4_root_125 ?_
    refine am_iconst hC dX4_root_126 ?_
    refine am_V1_qI hC 4 dX4_root_127 kX4_83 (m_putNew _ _ v1 (by omega) (by omega) w14 w16 (Nat.two_pow_pos _) (by omega) (by omega)) k1 rfl (Nat.le_of_ble_eq_true rfl) (by decide) (by omega) (by omega) (fun rv h2 r => ?_)
    obtain ⟨e2, v2, g2⟩ := r
    have k2 := v2.1
    have bb2 := g2.1
    rw [e1]
    refine am_V3_qN hC 4 dX4_root_130 kX4_135 (m_setEnd (k := 1) _ _ v2 (by omega) h40 (by decide)) k2 rfl (Nat.le_of_ble_eq_true rfl) (by decide) (by omega) (by omega) (fun h3 r => ?_)
    obtain ⟨v3, g3⟩ := r
    have es : setE (aPut s1 1 (q + rtX s i P) (2 ^ P)).2 (2 * s.2.2.1 + 1) rv = rt2 s i P := by rw [rt2, ← hs1, ← hq, e2]
    rw [es] at v3
    have k3 := v3.1
    have bb3 := g3.1
    have e3 : (rt2 s i P).2.2.1 = s.2.2.1 := by rw [rt2, ← hs1, ← hq]; show (aPut s1 1 (q + rtX s i P) (2 ^ P)).2.2.2.1 = _; rw [ak2.1]; exact e1
    have G3 : gx h h3 K39 := o.tr ((g1.wk (by simp)).tr ((g2.wk kP39).tr (g3.wk (by simp))))
    refine am_aload0 hC dX4_root_133 ?_
    refine am_dup hC dX4_root_134 rfl ?_
    refine am_getf hC dX4_root_135 fX4_122 k3 rfl ?_
    refine am_dup_x1 hC dX4_root_138 rfl rfl ?_
    refine am_iconst hC dX4_root_139 ?_
    refine am_iadd hC dX4_root_140 ?_
    refine am_putf hC dX4_root_141 pX4_122 (fun q => by cases q) k3 (am_fitI _) (Nat.le_of_ble_eq_true rfl) ?_
    rw [kO_set3]
    refine am_heap (fun h4 e4 => ?_)
    have g4 : gx h3 h4 [0] := by rw [e4]; exact gx_up _ _ _
    have N0 : h4.2 0 = _ := (congrArg (fun H => H.2 0) e4).trans (am_up_at _ _ _)
    clear e4
    exact am_iret hC hT dX4_root_144 (by omega) (by omega) ⟨_, rfl, by rw [e3]; exact fin h4 (v3.re (g4.wk (by simp)) (by omega) N0 ((g4.2 11 (by omega) (by simp)).trans v3.2.2.1) ((g4.2 12 (by omega) (by simp)).trans v3.2.2.2.1)) (G3.tr (g4.wk (by simp)))⟩
  refine am_aload0 hC dX4_root_67 ?_
  refine am_aload3 hC dX4_root_68 ?_
  refine am_iload2 hC dX4_root_69 ?_
  refine am_V2_qI hC 4 dX4_root_70 kX4_128 (m_leaveRoot _ _ w (by omega) F r1a r1b ku hP) h0 rfl (Nat.le_of_ble_eq_true rfl) (by decide) (by omega) (by omega) (fun xv h1 r => ?_)
  obtain ⟨ex, v1, w18, bq, g1⟩ := r
  rw [hq'] at ex w18 bq
  have k1 := v1.1
  have b1 := g1.1
  refine am_istore4 hC dX4_root_73 rfl ?_
  refine am_aload0 hC dX4_root_75 ?_
  refine am_iload2 hC dX4_root_76 ?_
  refine am_V1_qN hC 4 dX4_root_77 kX4_132 (m_setNew _ _ v1 (by omega) w18 hP) k1 rfl (Nat.le_of_ble_eq_true rfl) (by decide) (by omega) (by omega) (fun h2 r => ?_)
  obtain ⟨v2, w24, w26, g2⟩ := r
  have k2 := v2.1
  have b2 := g2.1
  have w28 := w18.gx g2 (by omega) (by simp) (by simp)
  have z1 := p20 q (by omega)
  refine am_aload0 hC dX4_root_80 ?_
  refine am_aload0 hC dX4_root_81 ?_
  refine am_getf hC dX4_root_82 fX4_122 k2 rfl ?_
  refine am_iconst hC dX4_root_85 ?_
  refine am_aload0 hC dX4_root_86 ?_
  refine am_iconst hC dX4_root_87 ?_
  refine am_V1_qI hC 4 dX4_root_88 kX4_83 (m_putNew _ _ v2 (by omega) (by omega) w24 w26 (Nat.two_pow_pos _) (by omega) (by omega)) k2 rfl (Nat.le_of_ble_eq_true rfl) (by decide) (by omega) (by omega) (fun rv h3 r => ?_)
  obtain ⟨e2, v3, g3⟩ := r
  have k3 := v3.1
  have b3 := g3.1
  have w38 := w28.gx g3 (by omega) (by simp) (by simp)
  refine am_V3_qN hC 4 dX4_root_91 kX4_135 (m_setEnd (k := 0) _ _ v3 (by omega) h40 (by decide)) k3 rfl (Nat.le_of_ble_eq_true rfl) (by decide) (by omega) (by omega) (fun h4 r => ?_)
  obtain ⟨v4, g4⟩ := r
  have es : setE (aPut s 1 q (2 ^ P)).2 (2 * s.2.2.1 + 0) rv = s1 := by rw [hs1, rt1, ← hq, e2, Nat.add_zero]
  rw [es] at v4
  have k4 := v4.1
  have b4 := g4.1
  have w48 := w38.gx g4 (by omega) (by simp) (by simp)
  have x12 := v4.2.2.2.2.2.2.2.2.1
  have G4 : gx h h4 K39 := (g1.wk (by simp)).tr ((g2.wk (by simp)).tr ((g3.wk kP39).tr (g4.wk (by simp))))
  have ev : (xv = 1 ∧ rtX s i P = 0) ∨ (xv = 0 ∧ rtX s i P = 1) := by
    rw [hX, ex]
    by_cases c : q * q * u.2.2 = u.2.1 * 2 ^ (2 * P)
    · exact Or.inl ⟨if_pos c, if_pos c⟩
    · exact Or.inr ⟨if_neg c, if_neg c⟩
  have s11 : szn 1 ≤ 1 := szn_le.mpr (by decide)
  refine am_iload4 hC dX4_root_94 ?_
  refine am_if_ne hC 114 dX4_root_96 rfl (by omega) (fun c96 => ?_) (fun c96 => ?_)
  · first
      | exact tail h4 _ _ _ (by omega) (by omega) v4 (by rw [show q + rtX s i P = q by omega]; exact w48) (by omega) G4
      | exact tail h5 _ _ _ (by omega) (by omega) (v4.w (by omega) o5 w5.cc (by omega)) (by rw [show q + rtX s i P = q + 1 by omega]; exact w5) (by omega) (G4.tr (o5.gx.wk (by simp)))
  · refine am_aload0 hC dX4_root_99 ?_
    refine am_getf hC dX4_root_100 fX4_49 k4 rfl ?_
    refine am_aload0 hC dX4_root_103 ?_
    refine am_getf hC dX4_root_104 fX4_49 k4 rfl ?_
    refine am_aload0 hC dX4_root_107 ?_
    refine am_getf hC dX4_root_108 fX4_36 k4 rfl ?_
    refine am_V2_qN hC 3 dX4_root_111 kX4_105 (m_setSum _ _ w48.cc w48 x12 (by omega)) w48.o rfl (Nat.le_of_ble_eq_true rfl) (by decide) (by omega) (by omega) (fun h5 r => ?_)
    obtain ⟨w5, o5⟩ := r
    first
      | exact tail h4 _ _ _ (by omega) (by omega) v4 (by rw [show q + rtX s i P = q by omega]; exact w48) (by omega) G4
      | exact tail h5 _ _ _ (by omega) (by omega) (v4.w (by omega) o5 w5.cc (by omega)) (by rw [show q + rtX s i P = q + 1 by omega]; exact w5) (by omega) (G4.tr (o5.gx.wk (by simp)))
def okB (side bits : Int) : Prop := 0 ≤ side ∧ 0 ≤ bits ∧ bits ≤ 200
theorem m_root (l : Launch) (g : am_G) {h : am_H} {s : aS} {i p : Int} (hst : l.stackTraces = false) (w : kS h s) (h47 : 51 ≤ h.1) (ok : aOK s) (hi : IR i) (hp : IR p) :
    am_MetX l g yX4_root (am_W1 yX4_root cX4_root 5 (some .int)) 8 13 260 [.ref 0, vI i, vI p] h (qI fun v h1 => okV i ∧ okB (s.2.1 i.toNat).1 p ∧ okR h s (aRoot s i.toNat p.toNat) K39 v h1) (xK h s (fun E => (E = am_AIO ∧ ¬ okV i) ∨ (E = am_IAE ∧ okV i ∧ ¬ okB (s.2.1 i.toNat).1 p))) := by
  have h0 := w.1
  have o1 := ok.1
  have o3 := ok.2.2.1
  refine am_mkX [some (.ref 0), some (vI i), some (vI p), none, none] 2 hst rfl rfl (by decide +kernel) (fun x hl hg hC hT hTX => ?_)
  refine am_aload0 hC dX4_root_0 ?_
  refine am_iload1 hC dX4_root_1 ?_
  refine am_xV1_qA hC 4 hTX dX4_root_2 kX4_87 (m_fractionAt _ _ (by rw [hl]; exact hst) w hi) h0 rfl (Nat.le_of_ble_eq_true rfl) (by decide) (by omega) (by omega) (xK.wk (gx.rf _ _) (fun E q => Or.inl q)) (fun r1 hx1 q => ?_)
  obtain ⟨e, oi, r1a, r1b, F⟩ := q
  rw [e]
  clear e hx1
  obtain ⟨u, hu'⟩ : ∃ u, u = s.2.1 i.toNat := ⟨_, rfl⟩
  have ku : vOK u := by rw [hu']; exact ok.2.1 _ (by have := oi.2; have := oi.1; omega)
  have ku1 := ku.1
  rw [← hu'] at F hT hTX
  have F1 := F.1
  refine am_astore3 hC dX4_root_5 rfl ?_
  refine am_aload3 hC dX4_root_6 ?_
  refine am_getf hC dX4_root_7 fX4_101 F1 rfl ?_
  refine am_if_ge hC 23 dX4_root_10 rfl (by omega) (fun c10 => ?_) (fun c10 => ?_)
  · refine am_iload2 hC dX4_root_23 ?_
    refine am_if_lt hC 34 dX4_root_24 rfl (by omega) (fun c24 => ?_) (fun c24 => ?_)
    · exact am_throw hC hTX tX4_115_120_119 dX4_root_34 dX4_root_37 dX4_root_38 dX4_root_40 dX4_root_43 (by decide) (by decide) (by omega) (by omega) (fun n1 hn => ⟨Or.inr ⟨rfl, oi, by unfold okB; omega⟩, w.gr hn, gx_gr h hn _⟩)
    · refine am_iload2 hC dX4_root_27 ?_
      refine am_sipush hC dX4_root_28 rfl ?_
      refine am_icmp_le hC 44 dX4_root_31 rfl (by omega) (by omega) (fun c31 => ?_) (fun c31 => ?_)
      · refine am_aload0 hC dX4_root_44 ?_
        refine am_getf hC dX4_root_45 fX4_122 h0 rfl ?_
        refine am_bipush hC dX4_root_48 rfl ?_
        refine am_icmp_ge hC 65 dX4_root_50 rfl (by omega) (by omega) (fun c50 => ?_) (fun c50 => ?_)
        · have e : aRoot s i.toNat p.toNat = (-1, s) := by rw [aRoot, if_pos (by omega)]
          refine am_iconst hC dX4_root_65 ?_
          exact am_iret hC hT dX4_root_66 (by omega) (by omega) ⟨_, rfl, oi, ⟨by omega, by omega, by omega⟩, by rw [e], by rw [e]; exact w, gx.rf _ _⟩
        · refine am_aload0 hC dX4_root_53 ?_
          refine am_getf hC dX4_root_54 fX4_125 h0 rfl ?_
          refine am_iconst hC dX4_root_57 ?_
          refine am_iadd hC dX4_root_58 ?_
          refine am_sipush hC dX4_root_59 rfl ?_
          refine am_icmp_le hC 67 dX4_root_62 rfl (by omega) (by omega) (fun c62 => ?_) (fun c62 => ?_)
          · obtain ⟨P, hP⟩ : ∃ P, P = p.toNat := ⟨_, rfl⟩
            have pe : p = (P : Int) := by omega
            have oB : okB u.1 p := ⟨by omega, by omega, by omega⟩
            have e : aRoot s i.toNat P = ((s.2.2.1 : Int), incR (rt2 s i.toNat P)) := by rw [aRoot, if_neg (by omega)]
            rw [← hP] at hT
            have := root_fin (iv := i) hC hT w h47 ok F r1a r1b ku (show P ≤ 200 by omega) hu' (by omega) (by omega) (show 1 ≤ 1 by omega) (show 6 ≤ 6 by omega) (fun h1 q1 q2 => ⟨oi, oB, by rw [e], by rw [e]; exact q1, q2⟩)
            rw [← pe] at this
            exact this
          · have e : aRoot s i.toNat p.toNat = (-1, s) := by rw [aRoot, if_pos (by omega)]
            refine am_iconst hC dX4_root_65 ?_
            exact am_iret hC hT dX4_root_66 (by omega) (by omega) ⟨_, rfl, oi, ⟨by omega, by omega, by omega⟩, by rw [e], by rw [e]; exact w, gx.rf _ _⟩
      · exact am_throw hC hTX tX4_115_120_119 dX4_root_34 dX4_root_37 dX4_root_38 dX4_root_40 dX4_root_43 (by decide) (by decide) (by omega) (by omega) (fun n1 hn => ⟨Or.inr ⟨rfl, oi, by unfold okB; omega⟩, w.gr hn, gx_gr h hn _⟩)
  · exact am_throw hC hTX tX4_115_117_119 dX4_root_13 dX4_root_16 dX4_root_17 dX4_root_19 dX4_root_22 (by decide) (by decide) (by omega) (by omega) (fun n1 hn => ⟨Or.inr ⟨rfl, oi, by unfold okB; omega⟩, w.gr hn, gx_gr h hn _⟩)

/-! division by 0; the whole root; root -/
theorem m_divide0 (l : Launch) (g : am_G) {h : am_H} {dv x y cx cy a : Nat} (wd : wD h dv) (wx : wN h x cx a) (wy : wN h y cy 0) (sa : szn a ≤ 54) (x1 : x ≠ dv + 1) (x2 : x ≠ dv + 3) (x3 : x ≠ dv + 5) (y1 : y ≠ dv + 1) (y2 : y ≠ dv + 3) (y3 : y ≠ dv + 5) :
    am_Met l g yX0_divide (am_W1 yX0_divide cX0_divide 6 none) 4 0 0 [.ref dv, .ref x, .ref y] h (qN fun h1 => wD h1 dv ∧ wN h1 (dv + 1) 56 0 ∧ only h h1 (dS dv)) := by
  have hx9 := wd.off wx.cc x1 x2 x3
  have hd0 := wd.1
  have h5 := wy.o
  refine am_mk [some (.ref dv), some (.ref x), some (.ref y), none, none, none] 3 rfl rfl (by decide +kernel) (fun z hl hg hC hT _ => ?_)
  have dz : ∀ {H : am_H}, only h H (dS dv) → H.2 dv = some (eO 0 [.ref (dv + 1), .ref (dv + 3), .ref (dv + 5)]) := fun o => by rw [o.2 _ (by simp)]; exact hd0
  obtain ⟨hc1, n1, f1, b1⟩ := wd.2.1
  have z0 := szn_0
  refine am_aload2 hC dX0_divide_0 ?_
  refine am_getf hC dX0_divide_1 fX0_24 h5 rfl ?_
  refine am_iconst hC dX0_divide_4 ?_
  refine am_icmp_ne hC 36 dX0_divide_5 rfl (by omega) (by omega) (fun c5 => ?_) (fun c5 => ?_)
  · refine am_aload2 hC dX0_divide_36 ?_
    refine am_V0_pI hC 3 dX0_divide_37 kX0_44 (m_isZero _ _ wy rfl) h5 rfl (Nat.le_of_ble_eq_true rfl) (by decide) (Nat.le_refl _) (Nat.le_refl _) ?_
    rw [if_pos rfl]
    refine am_if_ne hC 51 dX0_divide_40 rfl (by omega) (fun c40 => ?_) (fun c40 => ?_)
    · refine am_aload0 hC dX0_divide_51 ?_
      refine am_getf hC dX0_divide_52 fX0_12 hd0 rfl ?_
      refine am_iconst hC dX0_divide_55 ?_
      refine am_V1_qN hC 3 dX0_divide_56 kX0_52 (m_settle _ _ (a := 0) b1 hc1 (by omega) 0 (by omega) (by decide) (fun j hj => by omega)) b1.1 rfl (Nat.le_of_ble_eq_true rfl) (by decide) (Nat.le_refl _) (Nat.le_refl _) (fun h1 q => ?_)
      have o1 : only h h1 [dv + 1, dv + 1 + 1] := by subst q; exact ⟨rfl, fun r hr => am_up_ne _ _ (fun e => hr (by simp [e]))⟩
      have w1 : wN h1 (dv + 1) 56 0 := by subst q; exact ⟨by decide, by rw [szn_0]; omega, hc1, f1, ⟨am_up_at _ _ _, by rw [am_up_ne _ _ (by omega)]; exact b1.2⟩, fun j hj => by rw [szn_0] at hj; omega⟩
      have o1' : only h h1 (dS dv) := o1.wk (by simp)
      have hd1 := dz o1'
      have wx1 := wx.kept o1' hx9.1 hx9.2
      have wr1 : wC h1 (dv + 3) 56 := wd.2.2.1.kept o1 (by simp) (by simp)
      obtain ⟨n3, hr3⟩ := wr1.o
      refine am_aload0 hC dX0_divide_59 ?_
      refine am_getf hC dX0_divide_60 fX0_18 hd1 rfl ?_
      refine am_aload1 hC dX0_divide_63 ?_
      refine am_V1_qN hC 3 dX0_divide_64 kX0_28 (m_become _ _ wr1 wx1 (by omega)) hr3 rfl (Nat.le_of_ble_eq_true rfl) (by decide) (Nat.le_refl _) (Nat.le_refl _) (fun h2 q => ?_)
      obtain ⟨w2, o2⟩ := q
      have wv2 : wC h2 (dv + 5) 56 := (wd.2.2.2.kept o1 (by simp) (by simp)).kept o2 (by simp) (by simp)
      exact am_vret hC hT dX0_divide_67 (Nat.le_refl _) (Nat.le_refl _) ⟨rfl, ⟨dz (o1'.tr (o2.wk (by simp))), (w1.kept o2 (by simp) (by simp)).cc, w2.cc, wv2⟩, w1.kept o2 (by simp) (by simp), o1'.tr (o2.wk (by simp))⟩
    · exact absurd c40 (by decide)
  · exact absurd c5 (by omega)
/-- the whole root -/
def isq : Nat → Nat
  | 0 => 0
  | n + 1 => if (isq n + 1) * (isq n + 1) ≤ n + 1 then isq n + 1 else isq n
theorem isq_s : ∀ n, isq n * isq n ≤ n ∧ n < (isq n + 1) * (isq n + 1) := by
  intro n
  induction n with
  | zero => exact ⟨Nat.le_refl _, by decide⟩
  | succ n ih =>
    unfold isq
    split
    · refine ⟨by assumption, ?_⟩
      have e : (isq n + 1 + 1) * (isq n + 1 + 1) = (isq n + 1) * (isq n + 1) + (2 * isq n + 3) := by rw [Nat.add_mul (isq n + 1) 1, Nat.mul_add (isq n + 1) (isq n + 1) 1]; omega
      omega
    · exact ⟨by omega, by omega⟩
/-- Newton's step from above -/
theorem nw_lo {n x s : Nat} (hs : s * s ≤ n) (hx : 0 < x) : s ≤ (x + n / x) / 2 := by
  have h1 : 2 * s ≤ x + n / x := by
    have h0 := Int.natCast_nonneg (n / x)
    rcases Nat.lt_or_ge (2 * s) x with c | c
    · exact Nat.le_trans (Nat.le_of_lt c) (Nat.le_add_right _ _)
    · have h2 : 2 * s - x ≤ n / x := by
        rw [Nat.le_div_iff_mul_le hx]
        refine Nat.le_trans ?_ hs
        rcases Nat.le_total x s with d | d
        · obtain ⟨t, rfl⟩ : ∃ t, s = x + t := ⟨s - x, by omega⟩
          rw [show 2 * (x + t) - x = x + 2 * t by omega, Nat.add_mul, Nat.add_mul, Nat.mul_add, Nat.mul_add, Nat.mul_assoc 2 t x, Nat.mul_comm t x]
          have := Nat.zero_le (t * t)
          omega
        · obtain ⟨t, rfl⟩ : ∃ t, x = s + t := ⟨x - s, by omega⟩
          obtain ⟨r, rfl⟩ : ∃ r, s = t + r := ⟨s - t, by omega⟩
          rw [show 2 * (t + r) - (t + r + t) = r by omega, Nat.mul_add, Nat.mul_add, Nat.add_mul, Nat.mul_add, Nat.mul_add, Nat.mul_comm r t]
          have := Nat.zero_le (t * t)
          omega
      omega
  omega
theorem nw_hi {n x s : Nat} (hs : n < (s + 1) * (s + 1)) (hx : s < x) : n / x ≤ s := by
  have h1 : n / x ≤ n / (s + 1) := Nat.div_le_div_left (by omega) (by omega)
  have h2 : n / (s + 1) < s + 1 := by rw [Nat.div_lt_iff_lt_mul (by omega)]; exact hs
  omega
theorem isq_b {n m : Nat} (h : bl n ≤ 2 * m) : isq n < 2 ^ m := by
  rcases Nat.lt_or_ge (isq n) (2 ^ m) with c | c
  · exact c
  · exfalso
    have h1 := Nat.mul_le_mul c c
    have h2 := bl_le.mp h
    rw [← Nat.pow_add, show m + m = 2 * m by omega] at h1
    have := (isq_s n).1
    omega
abbrev kR : List Nat := [15, 16, 19, 20, 25, 26, 27, 28, 29, 30]
theorem m_floorRoot (l : Launch) (g : am_G) {h : am_H} {s : aS} {n : Nat} (w : kS h s) (b39 : 43 ≤ h.1) (wn : wN h 21 56 n) (hb : bl n ≤ 1300) :
    am_Met l g yX4_leaveFloorOfRootOfRightInLeft (am_W1 yX4_leaveFloorOfRootOfRightInLeft cX4_leaveFloorOfRootOfRightInLeft 2 none) 5 0 0 [.ref 0] h (qN fun h1 => kS h1 s ∧ wN h1 19 56 (isq n) ∧ wN h1 21 56 n ∧ gx h h1 kR) := by
  have h0 := w.1
  have zn := szn_bl n
  have sq := isq_s n
  obtain ⟨q, hq⟩ : ∃ q, q = isq n := ⟨_, rfl⟩
  rw [← hq] at sq
  refine am_mk [some (.ref 0), none] 1 rfl rfl (by decide +kernel) (fun x hl hg hC hT _ => ?_)
  have loop : ∀ (m t X : Nat) (H : am_H), t + m = 1000 → kS H s → gx h H kR → wN H 19 56 X → wN H 21 56 n → q ≤ X → X ≤ 2 ^ 651 → X - q < 2 ^ m → am_W x 24 0 0 H [some (.ref 0), some (vI (t : Int))] [] := by
    intro m
    induction m with
    | zero =>
      intro t X H ht v o w8 w10 hX hX2 hd
      rw [Nat.pow_zero] at hd
      refine am_iload1 hC dX4_leaveFloorOfRootOfRightInLeft_24 ?_
      refine am_sipush hC dX4_leaveFloorOfRootOfRightInLeft_25 rfl ?_
      refine am_icmp_ge hC 104 dX4_leaveFloorOfRootOfRightInLeft_28 rfl (by omega) (by omega) (fun c28 => ?_) (fun c28 => ?_)
      · exact am_vret hC hT dX4_leaveFloorOfRootOfRightInLeft_104 (by omega) (by omega) ⟨rfl, v, by rw [← hq, show q = X by omega]; exact w8, w10, o⟩
      · exact absurd c28 (by omega)
    | succ m ih =>
      intro t X H ht v o w8 w10 hX hX2 hd
      have b1 := o.1
      have k0 := v.1
      have t15 := v.2.2.2.2.2.2.2.2.2.2.1
      have t4 := v.2.2.2.2.1
      have zX : szn X ≤ 22 := szn_le.mpr (Nat.lt_of_le_of_lt hX2 (by decide +kernel))
      have zD : szn (n / X) ≤ 45 := Nat.le_trans (szn_mono (Nat.div_le_self _ _)) (by omega)
      have lo : 0 < X → q ≤ (X + n / X) / 2 := nw_lo sq.1
      have hi : q < X → n / X ≤ q := nw_hi sq.2
      obtain ⟨Y, hY⟩ : ∃ Y, Y = n / X := ⟨_, rfl⟩
      have Y0 : X = 0 → Y = 0 := fun c => by rw [hY, c, Nat.div_zero]
      rw [← hY] at zD lo hi
      obtain ⟨Z, hZ⟩ : ∃ Z, Z = (X + Y) / 2 := ⟨_, rfl⟩
      have pw : 2 ^ (m + 1) = 2 * 2 ^ m := by rw [Nat.pow_succ]; omega
      have zZ : szn Z ≤ 46 := by
        rcases Nat.le_total X Y with c | c
        · exact Nat.le_trans (szn_mono (show Z ≤ Y by omega)) (by omega)
        · exact Nat.le_trans (szn_mono (show Z ≤ X by omega)) (by omega)
      have rest : ∀ (h2 : am_H), kS h2 s → gx h h2 kR → wN h2 19 56 X → wN h2 21 56 n → wN h2 25 56 Y → am_W x 46 0 0 h2 [some (.ref 0), some (vI (t : Int))] [] := by
        intro h2 v2 o2 w82 w102 w16
        have b2 := o2.1
        have k2 := v2.1
        have d2 := v2.2.2.2.2.2.2.2.2.2.2.1.1
        have t42 := v2.2.2.2.2.1
        have ⟨n4, e4⟩ := t42.o
        refine am_aload0 hC dX4_leaveFloorOfRootOfRightInLeft_46 ?_
        refine am_getf hC dX4_leaveFloorOfRootOfRightInLeft_47 fX4_43 k2 rfl ?_
        refine am_aload0 hC dX4_leaveFloorOfRootOfRightInLeft_50 ?_
        refine am_getf hC dX4_leaveFloorOfRootOfRightInLeft_51 fX4_49 k2 rfl ?_
        refine am_aload0 hC dX4_leaveFloorOfRootOfRightInLeft_54 ?_
        refine am_getf hC dX4_leaveFloorOfRootOfRightInLeft_55 fX4_61 k2 rfl ?_
        refine am_getf hC dX4_leaveFloorOfRootOfRightInLeft_58 fX4_153 d2 rfl ?_
        refine am_V2_qN hC 3 dX4_leaveFloorOfRootOfRightInLeft_61 kX4_105 (m_setSum _ _ t42 w82 w16 (by omega)) e4 rfl (Nat.le_of_ble_eq_true rfl) (by decide) (by omega) (by omega) (fun h3 r => ?_)
        obtain ⟨w3, o3⟩ := r
        have v3 := v2.w (by omega) o3 w3.cc (by omega)
        have k3 := v3.1
        have H3 : h3.1 = h2.1 := o3.1
        refine am_aload0 hC dX4_leaveFloorOfRootOfRightInLeft_64 ?_
        refine am_getf hC dX4_leaveFloorOfRootOfRightInLeft_65 fX4_43 k3 rfl ?_
        refine am_iconst hC dX4_leaveFloorOfRootOfRightInLeft_68 ?_
        refine am_V1_qN hC 3 dX4_leaveFloorOfRootOfRightInLeft_69 kX4_227 (m_lower _ _ (p := 1) w3 (by decide)) w3.o rfl (Nat.le_of_ble_eq_true rfl) (by decide) (by omega) (by omega) (fun h4 r => ?_)
        obtain ⟨w4, o4⟩ := r
        rw [Nat.pow_one, ← hZ] at w4
        have v4 := v3.w (by omega) o4 w4.cc (by omega)
        have k4 := v4.1
        have H4 : h4.1 = h2.1 := o4.1.trans H3
        have w84 := (w82.kept o3 (by simp) (by simp)).kept o4 (by simp) (by simp)
        have w104 := (w102.kept o3 (by simp) (by simp)).kept o4 (by simp) (by simp)
        have G4 : gx h h4 kR := o2.tr ((o3.gx.wk (by simp)).tr (o4.gx.wk (by simp)))
        have cs := cmpN_s Z X
        refine am_aload0 hC dX4_leaveFloorOfRootOfRightInLeft_72 ?_
        refine am_getf hC dX4_leaveFloorOfRootOfRightInLeft_73 fX4_43 k4 rfl ?_
        refine am_aload0 hC dX4_leaveFloorOfRootOfRightInLeft_76 ?_
        refine am_getf hC dX4_leaveFloorOfRootOfRightInLeft_77 fX4_49 k4 rfl ?_
        refine am_V1_pI hC 3 dX4_leaveFloorOfRootOfRightInLeft_80 kX4_108 (m_compareWith _ _ w4 w84) w4.o rfl (Nat.le_of_ble_eq_true rfl) (by decide) (by omega) (by omega) ?_
        refine am_if_lt hC 87 dX4_leaveFloorOfRootOfRightInLeft_83 rfl (by omega) (fun c83 => ?_) (fun c83 => ?_)
        · refine am_aload0 hC dX4_leaveFloorOfRootOfRightInLeft_87 ?_
          refine am_getf hC dX4_leaveFloorOfRootOfRightInLeft_88 fX4_49 k4 rfl ?_
          refine am_aload0 hC dX4_leaveFloorOfRootOfRightInLeft_91 ?_
          refine am_getf hC dX4_leaveFloorOfRootOfRightInLeft_92 fX4_43 k4 rfl ?_
          refine am_V1_qN hC 3 dX4_leaveFloorOfRootOfRightInLeft_95 kX4_156 (m_become _ _ w84.cc w4 (by omega)) w84.o rfl (Nat.le_of_ble_eq_true rfl) (by decide) (by omega) (by omega) (fun h5 r => ?_)
          obtain ⟨w5, o5⟩ := r
          have v5 := v4.w (by omega) o5 w5.cc (by omega)
          refine am_iinc1 hC dX4_leaveFloorOfRootOfRightInLeft_98 rfl ?_
          refine am_goto hC 24 dX4_leaveFloorOfRootOfRightInLeft_101 rfl ?_
          rw [show (t : Int) + 1 = ((t + 1 : Nat) : Int) by omega]
          exact ih (t + 1) Z h5 (by omega) v5 (G4.tr (o5.gx.wk (by simp))) w5 (w104.kept o5 (by simp) (by simp)) (by omega) (by omega) (by omega)
        · exact am_vret hC hT dX4_leaveFloorOfRootOfRightInLeft_86 (by omega) (by omega) ⟨rfl, v4, by rw [← hq, show q = X by omega]; exact w84, w104, G4⟩
      by_cases x0 : X = 0
      · subst x0
        refine am_iload1 hC dX4_leaveFloorOfRootOfRightInLeft_24 ?_
        refine am_sipush hC dX4_leaveFloorOfRootOfRightInLeft_25 rfl ?_
        refine am_icmp_ge hC 104 dX4_leaveFloorOfRootOfRightInLeft_28 rfl (by omega) (by omega) (fun c28 => ?_) (fun c28 => ?_)
        · exact absurd c28 (by omega)
        · refine am_aload0 hC dX4_leaveFloorOfRootOfRightInLeft_31 ?_
          refine am_getf hC dX4_leaveFloorOfRootOfRightInLeft_32 fX4_61 k0 rfl ?_
          refine am_aload0 hC dX4_leaveFloorOfRootOfRightInLeft_35 ?_
          refine am_getf hC dX4_leaveFloorOfRootOfRightInLeft_36 fX4_52 k0 rfl ?_
          refine am_aload0 hC dX4_leaveFloorOfRootOfRightInLeft_39 ?_
          refine am_getf hC dX4_leaveFloorOfRootOfRightInLeft_40 fX4_49 k0 rfl ?_
          refine am_V2_qN hC 0 dX4_leaveFloorOfRootOfRightInLeft_43 kX4_150 (m_divide0 _ _ t15 w10 w8 (by omega) (by omega) (by omega) (by omega) (by omega) (by omega) (by omega)) t15.1 rfl (Nat.le_of_ble_eq_true rfl) (by decide) (by omega) (by omega) (fun h2 r => ?_)
          obtain ⟨d2, q2, o2⟩ := r
          exact rest h2 (v.dv (by omega) o2 d2) (o.tr (o2.gx.wk (by simp))) (w8.kept o2 (by simp) (by simp)) (w10.kept o2 (by simp) (by simp)) (by rw [Y0 rfl]; exact q2)
      · refine am_iload1 hC dX4_leaveFloorOfRootOfRightInLeft_24 ?_
        refine am_sipush hC dX4_leaveFloorOfRootOfRightInLeft_25 rfl ?_
        refine am_icmp_ge hC 104 dX4_leaveFloorOfRootOfRightInLeft_28 rfl (by omega) (by omega) (fun c28 => ?_) (fun c28 => ?_)
        · exact absurd c28 (by omega)
        · refine am_aload0 hC dX4_leaveFloorOfRootOfRightInLeft_31 ?_
          refine am_getf hC dX4_leaveFloorOfRootOfRightInLeft_32 fX4_61 k0 rfl ?_
          refine am_aload0 hC dX4_leaveFloorOfRootOfRightInLeft_35 ?_
          refine am_getf hC dX4_leaveFloorOfRootOfRightInLeft_36 fX4_52 k0 rfl ?_
          refine am_aload0 hC dX4_leaveFloorOfRootOfRightInLeft_39 ?_
          refine am_getf hC dX4_leaveFloorOfRootOfRightInLeft_40 fX4_49 k0 rfl ?_
          refine am_V2_qN hC 0 dX4_leaveFloorOfRootOfRightInLeft_43 kX4_150 (m_divide _ _ t15 w10 w8 x0 (by omega) (by omega) (by omega) (by omega) (by omega) (by omega) (by omega) (by omega)) t15.1 rfl (Nat.le_of_ble_eq_true rfl) (by decide) (by omega) (by omega) (fun h2 r => ?_)
          obtain ⟨d2, q2, r2, o2⟩ := r
          rw [← hY] at q2
          exact rest h2 (v.dv (by omega) o2 d2) (o.tr (o2.gx.wk (by simp))) (w8.kept o2 (by simp) (by simp)) (w10.kept o2 (by simp) (by simp)) q2
  have t8 := w.2.2.2.2.2.2.1
  have ⟨n8, e8⟩ := t8.o
  have x12 := w.2.2.2.2.2.2.2.2.1
  have s1 : szn 1 ≤ 1 := szn_le.mpr (by decide)
  obtain ⟨e, he⟩ : ∃ e, e = (bl n + 1) / 2 := ⟨_, rfl⟩
  have qb : q < 2 ^ e := by rw [hq]; exact isq_b (by omega)
  have e651 : e ≤ 651 := by omega
  have p1 : 2 ^ e ≤ 2 ^ 651 := Nat.pow_le_pow_right (by decide) e651
  have p2 : (2 : Nat) ^ 651 < 2 ^ 1000 := by decide +kernel
  have td : ((bl n : Int) + 1).tdiv 2 = (e : Int) := by rw [Int.tdiv_eq_ediv_of_nonneg (by omega)]; omega
  refine am_aload0 hC dX4_leaveFloorOfRootOfRightInLeft_0 ?_
  refine am_getf hC dX4_leaveFloorOfRootOfRightInLeft_1 fX4_49 h0 rfl ?_
  refine am_aload0 hC dX4_leaveFloorOfRootOfRightInLeft_4 ?_
  refine am_getf hC dX4_leaveFloorOfRootOfRightInLeft_5 fX4_36 h0 rfl ?_
  refine am_aload0 hC dX4_leaveFloorOfRootOfRightInLeft_8 ?_
  refine am_getf hC dX4_leaveFloorOfRootOfRightInLeft_9 fX4_52 h0 rfl ?_
  refine am_V0_pI hC 3 dX4_leaveFloorOfRootOfRightInLeft_12 kX4_202 (m_width _ _ wn) wn.o rfl (Nat.le_of_ble_eq_true rfl) (by decide) (by omega) (by omega) ?_
  refine am_iconst hC dX4_leaveFloorOfRootOfRightInLeft_15 ?_
  refine am_iadd hC dX4_leaveFloorOfRootOfRightInLeft_16 ?_
  refine am_iconst hC dX4_leaveFloorOfRootOfRightInLeft_17 ?_
  refine am_idiv hC dX4_leaveFloorOfRootOfRightInLeft_18 (by omega) (by omega) (by omega) ?_
  rw [td]
  refine am_V2_qN hC 3 dX4_leaveFloorOfRootOfRightInLeft_19 kX4_220 (m_setShifted _ _ t8 x12 (by omega) (by omega) (by omega)) e8 rfl (Nat.le_of_ble_eq_true rfl) (by decide) (by omega) (by omega) (fun h1 r => ?_)
  obtain ⟨w1, o1⟩ := r
  rw [Nat.one_mul] at w1
  refine am_iconst hC dX4_leaveFloorOfRootOfRightInLeft_22 ?_
  refine am_istore1 hC dX4_leaveFloorOfRootOfRightInLeft_23 rfl ?_
  exact loop 1000 0 (2 ^ e) h1 rfl (w.w b39 o1 w1.cc (by omega)) (o1.gx.wk (by simp)) w1 (wn.kept o1 (by simp) (by simp)) (by omega) p1 (by omega)

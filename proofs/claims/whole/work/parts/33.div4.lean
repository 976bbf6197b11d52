/-! Divider.divide -/
abbrev dS (dv : Nat) : List Nat := [dv + 1, dv + 2, dv + 3, dv + 4, dv + 5, dv + 6]
def wD (h : am_H) (dv : Nat) : Prop := h.2 dv = some (eO 0 [.ref (dv + 1), .ref (dv + 3), .ref (dv + 5)]) ∧ wC h (dv + 1) 56 ∧ wC h (dv + 3) 56 ∧ wC h (dv + 5) 56
theorem wD.off {h : am_H} {dv x c : Nat} (d : wD h dv) (w : wC h x c) (q1 : x ≠ dv + 1) (q2 : x ≠ dv + 3) (q3 : x ≠ dv + 5) : x ∉ dS dv ∧ x + 1 ∉ dS dv := by
  have a1 := wC.apart w d.2.1 q1
  have a2 := wC.apart w d.2.2.1 q2
  have a3 := wC.apart w d.2.2.2 q3
  simp only [List.mem_cons, List.not_mem_nil, or_false, not_or] at a1 a2 a3 ⊢
  omega
theorem wD.kept {h h1 : am_H} {dv : Nat} {S : List Nat} (d : wD h dv) (o : only h h1 S) (q : ∀ j, dv ≤ j → j ≤ dv + 6 → j ∉ S) : wD h1 dv :=
  ⟨by rw [o.2 _ (q dv (by omega) (by omega))]; exact d.1, d.2.1.kept o (q _ (by omega) (by omega)) (q _ (by omega) (by omega)), d.2.2.1.kept o (q _ (by omega) (by omega)) (q _ (by omega) (by omega)), d.2.2.2.kept o (q _ (by omega) (by omega)) (q _ (by omega) (by omega))⟩
theorem lift_top {b l : Nat} (hb : b ≠ 0) (hl : l = 31 * szn b - bl b) : l ≤ 30 ∧ bl b + l = 31 * szn b ∧ szn (b * 2 ^ l) = szn b ∧ 1073741824 ≤ dg (b * 2 ^ l) (szn b - 1) := by
  have e1 := szn_bl b
  have hbl : 0 < bl b := Nat.pos_of_ne_zero fun q => hb (bl_eq0.mp q)
  have e2 : bl b + l = 31 * szn b := by omega
  have hD : b * 2 ^ l ≠ 0 := Nat.mul_ne_zero hb (Nat.pos_iff_ne_zero.mp (Nat.two_pow_pos l))
  have e3 := bl_shl l hb
  have e4 := szn_bl (b * 2 ^ l)
  have e5 : szn (b * 2 ^ l) = szn b := by omega
  have e6 := bl_top hD
  rw [e5] at e6
  refine ⟨by omega, e2, e5, ?_⟩
  rcases Nat.lt_or_ge (dg (b * 2 ^ l) (szn b - 1)) 1073741824 with c | c
  · have : bl (dg (b * 2 ^ l) (szn b - 1)) ≤ 30 := bl_le.mpr c
    omega
  · exact c
theorem divl_mod {a b l : Nat} : a * 2 ^ l % (b * 2 ^ l) = a % b * 2 ^ l := Nat.mul_mod_mul_right _ _ _
theorem divl_div {a b l : Nat} : a * 2 ^ l / (b * 2 ^ l) = a / b := Nat.mul_div_mul_right _ _ (Nat.two_pow_pos l)
theorem m_divide (l : Launch) (g : am_G) {h : am_H} {dv x y cx cy a b : Nat} (wd : wD h dv) (wx : wN h x cx a) (wy : wN h y cy b) (hb : b ≠ 0) (sa : szn a ≤ 54) (sb : szn b ≤ 54) (x1 : x ≠ dv + 1) (x2 : x ≠ dv + 3) (x3 : x ≠ dv + 5) (y1 : y ≠ dv + 1) (y2 : y ≠ dv + 3) (y3 : y ≠ dv + 5) :
    am_Met l g yX0_divide (am_W1 yX0_divide cX0_divide 6 none) 4 0 0 [.ref dv, .ref x, .ref y] h (qN fun h1 => wD h1 dv ∧ wN h1 (dv + 1) 56 (a / b) ∧ wN h1 (dv + 3) 56 (a % b) ∧ only h h1 (dS dv)) := by
  have hx9 := wd.off wx.cc x1 x2 x3
  have hy9 := wd.off wy.cc y1 y2 y3
  have hd0 := wd.1
  have h5 := wy.o
  have hbz : 0 < szn b := Nat.pos_of_ne_zero fun q => hb (szn_eq0.mp q)
  refine am_mk [some (.ref dv), some (.ref x), some (.ref y), none, none, none] 3 rfl rfl (by decide +kernel) (fun z hl hg hC hT _ => ?_)
  have dz : ∀ {H : am_H}, only h H (dS dv) → H.2 dv = some (eO 0 [.ref (dv + 1), .ref (dv + 3), .ref (dv + 5)]) := fun o => by rw [o.2 _ (by simp)]; exact hd0
  by_cases s1 : szn b = 1
  · have eb : dg b 0 = b := by
      have := lt_pow_szn b
      rw [s1, Nat.pow_one] at this
      unfold dg; rw [sh_0]; exact Nat.mod_eq_of_lt this
    have b31 : b < 2147483648 := by rw [← eb]; exact dg_lt _ _
    obtain ⟨n1, hq1⟩ := wd.2.1.o
    refine am_aload2 hC dX0_divide_0 ?_
    refine am_getf hC dX0_divide_1 fX0_24 h5 rfl ?_
    refine am_iconst hC dX0_divide_4 ?_
    refine am_icmp_ne hC 36 dX0_divide_5 rfl (by omega) (by omega) (fun c5 => ?_) (fun c5 => ?_)
    · exact absurd (by omega) c5
    · refine am_aload0 hC dX0_divide_8 ?_
      refine am_getf hC dX0_divide_9 fX0_12 hd0 rfl ?_
      refine am_aload1 hC dX0_divide_12 ?_
      refine am_V1_qN hC 3 dX0_divide_13 kX0_28 (m_become _ _ wd.2.1 wx (by omega)) hq1 rfl (Nat.le_of_ble_eq_true rfl) (by decide) (Nat.le_refl _) (Nat.le_refl _) (fun h1 q => ?_)
      obtain ⟨w1, o1⟩ := q
      have o1' : only h h1 (dS dv) := o1.wk (by simp)
      have hd1 := dz o1'
      have wy1 := wy.kept o1' hy9.1 hy9.2
      refine am_aload0 hC dX0_divide_16 ?_
      refine am_getf hC dX0_divide_17 fX0_18 hd1 rfl ?_
      refine am_aload0 hC dX0_divide_20 ?_
      refine am_getf hC dX0_divide_21 fX0_12 hd1 rfl ?_
      refine am_aload2 hC dX0_divide_24 ?_
      refine am_iconst hC dX0_divide_25 ?_
      have lb := wy1.lv 0
      rw [eb] at lb
      refine r_limb hC dX0_divide_26 kX0_32 lb (by omega) (Nat.le_of_ble_eq_true rfl) (by decide) (Nat.le_refl _) (Nat.le_refl _) ?_
      refine am_V1_qL hC 3 dX0_divide_29 kX0_36 (m_takeQuotient _ _ w1 (by omega) b31) w1.o rfl (Nat.le_of_ble_eq_true rfl) (by decide) (Nat.le_refl _) (Nat.le_refl _) (fun v h2 q => ?_)
      obtain ⟨rfl, w2, o2⟩ := q
      have o2' : only h h2 (dS dv) := o1'.tr (o2.wk (by simp))
      have wr2 : wC h2 (dv + 3) 56 := wd.2.2.1.kept (o1.tr o2) (by simp) (by simp)
      have wv2 : wC h2 (dv + 5) 56 := wd.2.2.2.kept (o1.tr o2) (by simp) (by simp)
      have mlt : a % b < b := Nat.mod_lt _ (by omega)
      obtain ⟨n3, hr3⟩ := wr2.o
      refine am_V1_qN hC 3 dX0_divide_32 kX0_40 (m_setMagnitude _ _ (v := ((a % b : Nat) : Int)) wr2 (by omega) (by rw [Int.natAbs_natCast]; exact Nat.le_trans (szn_mono (Nat.mod_le _ _)) (by omega))) hr3 rfl (Nat.le_of_ble_eq_true rfl) (by decide) (Nat.le_refl _) (Nat.le_refl _) (fun h3 q => ?_)
      obtain ⟨w3, o3⟩ := q
      rw [Int.natAbs_natCast] at w3
      exact am_vret hC hT dX0_divide_35 (Nat.le_refl _) (Nat.le_refl _) ⟨rfl, ⟨dz (o2'.tr (o3.wk (by simp))), (w2.kept o3 (by simp) (by simp)).cc, w3.cc, wv2.kept o3 (by simp) (by simp)⟩, w2.kept o3 (by simp) (by simp), w3, o2'.tr (o3.wk (by simp))⟩
  have cmp : a < b ∨ b ≤ a := Nat.lt_or_ge a b
  have start : ∀ hcmp : cmpN a b < 0 ∨ 0 ≤ cmpN a b, (cmpN a b < 0 → am_W z 51 0 0 h [some (.ref dv), some (.ref x), some (.ref y), none, none, none] []) → (0 ≤ cmpN a b → am_W z 68 0 0 h [some (.ref dv), some (.ref x), some (.ref y), none, none, none] []) → am_W z 0 0 0 h [some (.ref dv), some (.ref x), some (.ref y), none, none, none] [] := by
    intro hcmp k1 k2
    have cr := cmpN_r a b
    refine am_aload2 hC dX0_divide_0 ?_
    refine am_getf hC dX0_divide_1 fX0_24 h5 rfl ?_
    refine am_iconst hC dX0_divide_4 ?_
    refine am_icmp_ne hC 36 dX0_divide_5 rfl (by omega) (by omega) (fun c5 => ?_) (fun c5 => ?_)
    · refine am_aload2 hC dX0_divide_36 ?_
      refine am_V0_pI hC 3 dX0_divide_37 kX0_44 (m_isZero _ _ wy rfl) h5 rfl (Nat.le_of_ble_eq_true rfl) (by decide) (Nat.le_refl _) (Nat.le_refl _) ?_
      rw [if_neg hb]
      refine am_if_ne hC 51 dX0_divide_40 rfl (by omega) (fun c40 => ?_) (fun c40 => ?_)
      · exact absurd rfl c40
      · refine am_aload1 hC dX0_divide_43 ?_
        refine am_aload2 hC dX0_divide_44 ?_
        refine am_V1_pI hC 3 dX0_divide_45 kX0_48 (m_compareWith _ _ wx wy) wx.o rfl (Nat.le_of_ble_eq_true rfl) (by decide) (Nat.le_refl _) (Nat.le_refl _) ?_
        refine am_if_ge hC 68 dX0_divide_48 rfl (by omega) (fun c48 => ?_) (fun c48 => ?_)
        · exact k2 (by omega)
        · exact k1 (by omega)
    · exact absurd c5 (by omega)
  refine start (by omega) (fun hlt => ?_) (fun hge => ?_)
  · have lt : a < b := by
      rcases cmp with c | c
      · exact c
      · exfalso
        rcases Nat.lt_or_ge b a with e | e
        · rw [cmpN_gt e] at hlt; omega
        · rw [show a = b by omega, cmpN_eq] at hlt; omega
    obtain ⟨hc1, n1, f1, b1⟩ := wd.2.1
    refine am_aload0 hC dX0_divide_51 ?_
    refine am_getf hC dX0_divide_52 fX0_12 hd0 rfl ?_
    refine am_iconst hC dX0_divide_55 ?_
    refine am_V1_qN hC 3 dX0_divide_56 kX0_52 (m_settle _ _ (a := 0) b1 hc1 (by omega) 0 (by omega) (by decide) (fun j hj => by omega)) b1.1 rfl (Nat.le_of_ble_eq_true rfl) (by decide) (Nat.le_refl _) (Nat.le_refl _) (fun h1 q => ?_)
    have o1 : only h h1 [dv + 1, dv + 1 + 1] := by subst q; exact ⟨rfl, fun r hr => am_up_ne _ _ (fun e => hr (by simp [e]))⟩
    have w1 : wN h1 (dv + 1) 56 0 := by subst q; exact ⟨by decide, by rw [szn_0]; omega, hc1, f1, ⟨am_up_at _ _ _, by rw [am_up_ne _ _ (by omega)]; exact b1.2⟩, fun j hj => by rw [szn_0] at hj; omega⟩
    have o1' : only h h1 (dS dv) := o1.wk (by simp)
    have hd1 := dz o1'
    have wx1 := wx.kept o1' hx9.1 hx9.2
    have wr1 : wC h1 (dv + 3) 56 := wd.2.2.1.kept o1 (by simp) (by simp)
    obtain ⟨n3, hr3⟩ := wr1.o
    refine am_aload0 hC dX0_divide_59 ?_
    refine am_getf hC dX0_divide_60 fX0_18 hd1 rfl ?_
    refine am_aload1 hC dX0_divide_63 ?_
    refine am_V1_qN hC 3 dX0_divide_64 kX0_28 (m_become _ _ wr1 wx1 (by omega)) hr3 rfl (Nat.le_of_ble_eq_true rfl) (by decide) (Nat.le_refl _) (Nat.le_refl _) (fun h2 q => ?_)
    obtain ⟨w2, o2⟩ := q
    have wv2 : wC h2 (dv + 5) 56 := (wd.2.2.2.kept o1 (by simp) (by simp)).kept o2 (by simp) (by simp)
    exact am_vret hC hT dX0_divide_67 (Nat.le_refl _) (Nat.le_refl _) ⟨rfl, ⟨dz (o1'.tr (o2.wk (by simp))), (w1.kept o2 (by simp) (by simp)).cc, w2.cc, wv2⟩, by rw [Nat.div_eq_of_lt lt]; exact w1.kept o2 (by simp) (by simp), by rw [Nat.mod_eq_of_lt lt]; exact w2, o1'.tr (o2.wk (by simp))⟩
  · have ge : b ≤ a := by
      rcases cmp with c | c
      · rw [cmpN_lt c] at hge; omega
      · exact c
    obtain ⟨lf, hlf⟩ : ∃ lf, lf = 31 * szn b - bl b := ⟨_, rfl⟩
    obtain ⟨l30, lb, lz, ltop⟩ := lift_top hb hlf
    obtain ⟨D, hD⟩ : ∃ D, D = b * 2 ^ lf := ⟨_, rfl⟩
    obtain ⟨R, hR⟩ : ∃ R, R = a * 2 ^ lf := ⟨_, rfl⟩
    rw [← hD] at lz ltop
    have hDp : 0 < D := by rw [hD]; exact Nat.mul_pos (Nat.pos_of_ne_zero hb) (Nat.two_pow_pos _)
    have DR : D ≤ R := by rw [hD, hR]; exact Nat.mul_le_mul_right _ ge
    have sDR := szn_mono DR
    have sR : szn R ≤ szn a + 1 := by
      have := shl_fit (a := a) (s := lf) (Nat.le_refl _)
      rw [show lf / 31 = 0 by omega, ← hR] at this
      exact szn_le.mpr this
    obtain ⟨hi, hhi⟩ : ∃ hi, hi = szn R - szn D := ⟨_, rfl⟩
    have hRhi : sh R (hi + 1) < D := by
      have e1 : 2147483648 ^ (szn D - 1) ≤ D := by
        rcases Nat.lt_or_ge D (2147483648 ^ (szn D - 1)) with c | c
        · have := szn_le.mpr c; omega
        · exact c
      have e2 : sh R (hi + 1) < 2147483648 ^ (szn D - 1) := by
        unfold sh
        rw [Nat.div_lt_iff_lt_mul (pB _), ← Nat.pow_add, show szn D - 1 + (hi + 1) = szn R by omega]
        exact lt_pow_szn R
      omega
    have fin : ∀ (H : am_H) (nq : Int) (fq : Nat → Int) (y5 : Option Value), only h H (dS dv) → wO H (dv + 1) nq 56 fq → (∀ j, j ≤ hi → fq j = (dg (R / D) j : Int)) → wR H (dv + 3) 56 (szn R) (R % D) → wC H (dv + 5) 56 → am_W z 146 0 0 H [some (.ref dv), some (.ref x), some (.ref y), some (vI (lf : Int)), some (vI (hi : Int)), y5] [] := by
      intro H nq fq y5 o bq hfq wr wv
      have hd1 := dz o
      refine am_aload0 hC dX0_divide_146 ?_
      refine am_getf hC dX0_divide_147 fX0_12 hd1 rfl ?_
      refine am_iload4 hC dX0_divide_150 ?_
      refine am_iconst hC dX0_divide_152 ?_
      refine am_iadd hC dX0_divide_153 ?_
      rw [show H = am_up H (dv + 1 + 1) (eL 56 fq) from (am_up_self bq.2).symm]
      refine w_set l hC dX0_divide_154 kX0_52 bq (by omega) (by omega) (r := R / D) (by rw [show ((hi : Int) + 1).toNat = hi + 1 by omega]; refine sh_lt0 ?_; rw [sh_div, Nat.div_eq_of_lt hRhi]) (fun j hj => hfq j (by omega)) (Nat.le_of_ble_eq_true rfl) (by decide) (Nat.le_refl _) (Nat.le_refl _) (fun h1 w1 o1 => ?_)
      have o1' : only h h1 (dS dv) := o.tr (o1.wk (by simp))
      have hd2 := dz o1'
      have wr1 := wr.kept o1 (by simp) (by simp)
      refine am_aload0 hC dX0_divide_157 ?_
      refine am_getf hC dX0_divide_158 fX0_18 hd2 rfl ?_
      refine am_iload3 hC dX0_divide_161 ?_
      refine am_V1_qN hC 3 dX0_divide_162 kX0_70 (m_lower _ _ wr1 (by omega)) wr1.o rfl (Nat.le_of_ble_eq_true rfl) (by decide) (Nat.le_refl _) (Nat.le_refl _) (fun h2 q => ?_)
      obtain ⟨w2, o2⟩ := q
      refine am_vret hC hT dX0_divide_165 (Nat.le_refl _) (Nat.le_refl _) ⟨rfl, ⟨dz (o1'.tr (o2.wk (by simp))), (w1.kept o2 (by simp) (by simp)).cc, w2.cc, (wv.kept o1 (by simp) (by simp)).kept o2 (by simp) (by simp)⟩, ?_, ?_, o1'.tr (o2.wk (by simp))⟩
      · rw [← divl_div (l := lf), ← hD, ← hR]; exact w1.kept o2 (by simp) (by simp)
      · have e : R % D / 2 ^ lf = a % b := by rw [hR, hD, divl_mod, Nat.mul_div_cancel _ (Nat.two_pow_pos _)]
        rw [← e]; exact w2
    have loop : ∀ (k : Nat) (H : am_H) (nq : Int) (fq : Nat → Int), k ≤ hi + 1 → only h H (dS dv) → wO H (dv + 1) nq 56 fq → (∀ j, k ≤ j → j ≤ hi → fq j = (dg (R / D) j : Int)) → wR H (dv + 3) 56 (szn R) (sh R k % D * 2147483648 ^ k + R % 2147483648 ^ k) → wN H (dv + 5) 56 D → am_W z 120 0 0 H [some (.ref dv), some (.ref x), some (.ref y), some (vI (lf : Int)), some (vI (hi : Int)), some (vI ((k : Int) - 1))] [] := by
      intro k
      induction k with
      | zero =>
        intro H nq fq hk o bq hfq wr wv
        rw [sh_0, Nat.pow_zero, Nat.mod_one, Nat.mul_one, Nat.add_zero] at wr
        refine am_iload5 hC dX0_divide_120 ?_
        refine am_if_lt hC 146 dX0_divide_122 rfl (by omega) (fun c122 => ?_) (fun c122 => ?_)
        · exact fin H nq fq _ o bq (fun j hj => hfq j (by omega) hj) wr wv.cc
        · exact absurd c122 (by omega)
      | succ k ih =>
        intro H nq fq hk o bq hfq wr wv
        have hd1 := dz o
        have low : R % 2147483648 ^ (k + 1) < 2147483648 ^ (k + 1) := Nat.mod_lt _ (pB _)
        have hRk : sh R (k + 1) % D < D := Nat.mod_lt _ hDp
        have gk := dg_lt R k
        have tq := tq_turn hDp (Nat.div_add_mod (sh R (k + 1)) D).symm hRk gk
        rw [← sh_dg R k] at tq
        have eT : sh (sh R (k + 1) % D * 2147483648 ^ (k + 1) + R % 2147483648 ^ (k + 1)) k = sh R (k + 1) % D * 2147483648 + dg R k := by
          have e1 := sh_dg (sh R (k + 1) % D * 2147483648 ^ (k + 1) + R % 2147483648 ^ (k + 1)) k
          have e2 := sh_glue (sh R (k + 1) % D) low 0
          rw [Nat.add_zero, sh_0] at e2
          have e3 := dg_glue (sh R (k + 1) % D) (j := k) low
          rw [if_pos (by omega), dg_mod (by omega)] at e3
          rw [e1, e2, e3]; omega
        have eLo : (sh R (k + 1) % D * 2147483648 ^ (k + 1) + R % 2147483648 ^ (k + 1)) % 2147483648 ^ k = R % 2147483648 ^ k := by
          have p1 : (2147483648 : Nat) ^ k ∣ 2147483648 ^ (k + 1) := Nat.pow_dvd_pow _ (by omega)
          rw [Nat.add_mod, Nat.mod_eq_zero_of_dvd (Nat.dvd_trans p1 (Nat.dvd_mul_left _ _)), Nat.zero_add, Nat.mod_mod, Nat.mod_mod_of_dvd _ p1]
        have hto := m_takeOut (am_l z) (am_g z) (at0 := k) hd1 wv (by omega) (by rw [lz]; exact ltop) wr (by omega) (by omega) (by rw [eT]; have : (sh R (k + 1) % D + 1) * 2147483648 ≤ D * 2147483648 := Nat.mul_le_mul_right _ hRk; omega)
        rw [eT, eLo] at hto
        have qd : (sh R (k + 1) % D * 2147483648 + dg R k) / D = dg (R / D) k := by
          show _ = sh (R / D) k % 2147483648
          rw [sh_div, tq.1, Nat.mul_add_mod, Nat.mod_eq_of_lt tq.2.1]
        rw [qd, ← tq.2.2] at hto
        rw [show ((k + 1 : Nat) : Int) - 1 = (k : Int) by omega]
        refine am_iload5 hC dX0_divide_120 ?_
        refine am_if_lt hC 146 dX0_divide_122 rfl (by omega) (fun c122 => ?_) (fun c122 => ?_)
        · exact absurd c122 (by omega)
        · refine am_aload0 hC dX0_divide_125 ?_
          refine am_getf hC dX0_divide_126 fX0_12 hd1 rfl ?_
          refine am_iload5 hC dX0_divide_129 ?_
          refine am_aload0 hC dX0_divide_131 ?_
          refine am_iload5 hC dX0_divide_132 ?_
          refine am_V1_qL hC 0 dX0_divide_134 kX0_63 hto hd1 rfl (Nat.le_of_ble_eq_true rfl) (by decide) (Nat.le_refl _) (Nat.le_refl _) (fun v h1 q => ?_)
          obtain ⟨rfl, w1, o1⟩ := q
          have bq1 : wO h1 (dv + 1) nq 56 fq := ⟨by rw [o1.2 _ (by simp)]; exact bq.1, by rw [o1.2 _ (by simp)]; exact bq.2⟩
          refine r_setLimb hC dX0_divide_137 kX0_66 bq1 (by omega) (by omega) (Nat.le_of_ble_eq_true rfl) (by decide) (Nat.le_refl _) (Nat.le_refl _) ?_
          rw [Int.toNat_natCast]
          have o2 : only h1 (am_up h1 (dv + 1 + 1) (eL 56 (am_fu fq k (dg (R / D) k : Int)))) [dv + 2] := ⟨rfl, fun r hr => am_up_ne _ _ (fun e => hr (by simp [e]))⟩
          refine am_iinc5 hC dX0_divide_140 rfl ?_
          refine am_goto hC 120 dX0_divide_143 rfl ?_
          refine ih _ _ _ (by omega) ((o.tr (o1.wk (by simp))).tr (o2.wk (by simp))) (wC.up bq1) (fun j hj hj2 => ?_) (w1.kept o2 (by simp) (by simp)) ((wv.kept o1 (by simp) (by simp)).kept o2 (by simp) (by simp))
          by_cases e : j = k
          · subst e; rw [am_fu_at]
          · rw [am_fu_lt e]; exact hfq j (by omega) hj2
    have bb : bl b ≤ 31 * szn b := by omega
    obtain ⟨n5, hv5⟩ := wd.2.2.2.o
    obtain ⟨n3, hr3⟩ := wd.2.2.1.o
    have hny := wy.n
    refine am_bipush hC dX0_divide_68 rfl ?_
    refine am_aload2 hC dX0_divide_70 ?_
    refine am_getf hC dX0_divide_71 fX0_24 h5 rfl ?_
    refine am_imul hC dX0_divide_74 ?_
    refine am_aload2 hC dX0_divide_75 ?_
    refine am_V0_pI hC 3 dX0_divide_76 kX0_55 (m_width _ _ wy) h5 rfl (Nat.le_of_ble_eq_true rfl) (by decide) (Nat.le_refl _) (Nat.le_refl _) ?_
    refine am_isub hC dX0_divide_79 ?_
    rw [show (31 : Int) * (szn b : Int) - (bl b : Int) = (lf : Int) by omega]
    refine am_istore3 hC dX0_divide_80 rfl ?_
    refine am_aload0 hC dX0_divide_81 ?_
    refine am_getf hC dX0_divide_82 fX0_21 hd0 rfl ?_
    refine am_aload2 hC dX0_divide_85 ?_
    refine am_iload3 hC dX0_divide_86 ?_
    refine am_V2_qN hC 3 dX0_divide_87 kX0_59 (m_setShifted _ _ wd.2.2.2 wy (by omega) (by omega) y3) hv5 rfl (Nat.le_of_ble_eq_true rfl) (by decide) (Nat.le_refl _) (Nat.le_refl _) (fun h1 q => ?_)
    rw [← hD] at q
    obtain ⟨w1, o1⟩ := q
    have o1' : only h h1 (dS dv) := o1.wk (by simp)
    have hd1 := dz o1'
    have wx1 := wx.kept o1' hx9.1 hx9.2
    have wr1 : wC h1 (dv + 3) 56 := wd.2.2.1.kept o1 (by simp) (by simp)
    have wq1 : wC h1 (dv + 1) 56 := wd.2.1.kept o1 (by simp) (by simp)
    obtain ⟨n31, hr31⟩ := wr1.o
    refine am_aload0 hC dX0_divide_90 ?_
    refine am_getf hC dX0_divide_91 fX0_18 hd1 rfl ?_
    refine am_aload1 hC dX0_divide_94 ?_
    refine am_iload3 hC dX0_divide_95 ?_
    refine am_V2_qN hC 3 dX0_divide_96 kX0_59 (m_setShifted _ _ wr1 wx1 (by omega) (by omega) x2) hr31 rfl (Nat.le_of_ble_eq_true rfl) (by decide) (Nat.le_refl _) (Nat.le_refl _) (fun h2 q => ?_)
    rw [← hR] at q
    obtain ⟨w2, o2⟩ := q
    have o2' : only h h2 (dS dv) := o1'.tr (o2.wk (by simp))
    have hd2 := dz o2'
    have w12 := w1.kept o2 (by simp) (by simp)
    have hr2 := w2.o
    have hv2 := w12.o
    refine am_aload0 hC dX0_divide_99 ?_
    refine am_getf hC dX0_divide_100 fX0_18 hd2 rfl ?_
    refine am_getf hC dX0_divide_103 fX0_24 hr2 rfl ?_
    refine am_aload0 hC dX0_divide_106 ?_
    refine am_getf hC dX0_divide_107 fX0_21 hd2 rfl ?_
    refine am_getf hC dX0_divide_110 fX0_24 hv2 rfl ?_
    refine am_isub hC dX0_divide_113 ?_
    refine am_istore4 hC dX0_divide_114 rfl ?_
    refine am_iload4 hC dX0_divide_116 ?_
    refine am_istore5 hC dX0_divide_118 rfl ?_
    rw [show (szn R : Int) - (szn D : Int) = (hi : Int) by omega]
    obtain ⟨hcq, nq, fq, bq⟩ := wq1.kept o2 (by simp) (by simp)
    have L := loop (hi + 1) h2 nq fq (Nat.le_refl _) o2' bq (fun j hj hj2 => by omega) (by rw [Nat.mod_eq_of_lt hRhi, ← sh_split]; exact w2) w12
    rw [show ((hi + 1 : Nat) : Int) - 1 = (hi : Int) by omega] at L
    exact L

/-! Whole: reads -/
theorem m_isZero (l : Launch) (g : am_G) {h : am_H} {i c n a : Nat} (w : wR h i c n a) (hn : n = szn a) : am_Met l g yX3_isZero (am_W1 yX3_isZero cX3_isZero 1 (some .boolean)) 1 0 0 [.ref i] h (pI (if a = 0 then 1 else 0) h) := by
  have h0 := w.o
  have hnn := w.n
  refine am_mk [some (.ref i)] 0 rfl rfl (by decide +kernel) (fun x hl hg hC hT _ => ?_)
  refine am_aload0 hC dX3_isZero_0 ?_
  refine am_getf hC dX3_isZero_1 fX3_26 h0 rfl ?_
  refine am_if_ne hC 11 dX3_isZero_4 rfl (by omega) (fun c4 => ?_) (fun c4 => ?_)
  · refine am_iconst hC dX3_isZero_11 ?_
    first
    | exact am_zret hC hT dX3_isZero_12 (by omega) (Nat.le_refl _) (Nat.le_refl _) ⟨sI (by rw [if_neg (fun q => c4 (by rw [hn, q]; rfl))]), rfl⟩
    | exact am_zret hC hT dX3_isZero_12 (by omega) (Nat.le_refl _) (Nat.le_refl _) ⟨sI (by rw [if_pos (szn_eq0.mp (by omega))]), rfl⟩
  · refine am_iconst hC dX3_isZero_7 ?_
    refine am_goto hC 12 dX3_isZero_8 rfl ?_
    first
    | exact am_zret hC hT dX3_isZero_12 (by omega) (Nat.le_refl _) (Nat.le_refl _) ⟨sI (by rw [if_neg (fun q => c4 (by rw [hn, q]; rfl))]), rfl⟩
    | exact am_zret hC hT dX3_isZero_12 (by omega) (Nat.le_refl _) (Nat.le_refl _) ⟨sI (by rw [if_pos (szn_eq0.mp (by omega))]), rfl⟩
theorem m_isOdd (l : Launch) (g : am_G) {h : am_H} {i c n a : Nat} (w : wR h i c n a) : am_Met l g yX3_isOdd (am_W1 yX3_isOdd cX3_isOdd 1 (some .boolean)) 2 0 0 [.ref i] h (pI (a % 2 : Nat) h) := by
  have h0 := w.o
  have e1 : dg a 0 % 2 = a % 2 := by unfold dg; rw [sh_0]; omega
  refine am_mk [some (.ref i)] 0 rfl rfl (by decide +kernel) (fun x hl hg hC hT _ => ?_)
  refine am_aload0 hC dX3_isOdd_0 ?_
  refine am_iconst hC dX3_isOdd_1 ?_
  refine r_limb hC dX3_isOdd_2 kX3_37 (w.lv 0) (by omega) (Nat.le_of_ble_eq_true rfl) (by decide) (Nat.le_refl _) (Nat.le_refl _) ?_
  refine am_lconst1 hC dX3_isOdd_5 ?_
  refine am_land hC 1 2 dX3_isOdd_6 (by decide) rfl rfl ?_
  refine am_lconst0 hC dX3_isOdd_7 ?_
  refine am_lif_eq hC 16 dX3_isOdd_8 dX3_isOdd_9 rfl (by omega) (by omega) (fun c9 => ?_) (fun c9 => ?_)
  · refine am_iconst hC dX3_isOdd_16 ?_
    exact am_zret hC hT dX3_isOdd_17 (by omega) (Nat.le_refl _) (Nat.le_refl _) ⟨sI (by omega), rfl⟩
  · refine am_iconst hC dX3_isOdd_12 ?_
    refine am_goto hC 17 dX3_isOdd_13 rfl ?_
    exact am_zret hC hT dX3_isOdd_17 (by omega) (Nat.le_refl _) (Nat.le_refl _) ⟨sI (by omega), rfl⟩
theorem m_width (l : Launch) (g : am_G) {h : am_H} {i c a : Nat} (w : wN h i c a) : am_Met l g yX3_width (am_W1 yX3_width cX3_width 1 (some .int)) 3 0 0 [.ref i] h (pI (bl a : Int) h) := by
  have h0 := w.o
  have hnn := w.n
  refine am_mk [some (.ref i)] 0 rfl rfl (by decide +kernel) (fun x hl hg hC hT _ => ?_)
  by_cases q : a = 0
  · subst q
    refine am_aload0 hC dX3_width_0 ?_
    refine am_getf hC dX3_width_1 fX3_26 h0 rfl ?_
    refine am_if_ne hC 11 dX3_width_4 rfl (by omega) (fun c4 => ?_) (fun c4 => ?_)
    · exact absurd rfl c4
    · refine am_iconst hC dX3_width_7 ?_
      refine am_goto hC 37 dX3_width_8 rfl ?_
      exact am_iret hC hT dX3_width_37 (Nat.le_refl _) (Nat.le_refl _) ⟨rfl, rfl⟩
  · have hz : 0 < szn a := Nat.pos_of_ne_zero fun r => q (szn_eq0.mp r)
    have ht := dg_top hz
    have hd := dg_lt a (szn a - 1)
    have e := bl_top q
    have e2 : bl (dg a (szn a - 1)) = Nat.log2 (dg a (szn a - 1)) + 1 := by unfold bl; rw [if_neg ht]
    refine am_aload0 hC dX3_width_0 ?_
    refine am_getf hC dX3_width_1 fX3_26 h0 rfl ?_
    refine am_if_ne hC 11 dX3_width_4 rfl (by omega) (fun c4 => ?_) (fun c4 => ?_)
    · refine am_bipush hC dX3_width_11 rfl ?_
      refine am_aload0 hC dX3_width_13 ?_
      refine am_getf hC dX3_width_14 fX3_26 h0 rfl ?_
      refine am_iconst hC dX3_width_17 ?_
      refine am_isub hC dX3_width_18 ?_
      refine am_imul hC dX3_width_19 ?_
      refine am_bipush hC dX3_width_20 rfl ?_
      refine am_iadd hC dX3_width_22 ?_
      refine am_aload0 hC dX3_width_23 ?_
      refine am_aload0 hC dX3_width_24 ?_
      refine am_getf hC dX3_width_25 fX3_26 h0 rfl ?_
      refine am_iconst hC dX3_width_28 ?_
      refine am_isub hC dX3_width_29 ?_
      rw [show (szn a : Int) - 1 = ((szn a - 1 : Nat) : Int) by omega]
      refine r_limb hC dX3_width_30 kX3_37 (w.lv _) (by omega) (Nat.le_of_ble_eq_true rfl) (by decide) (Nat.le_refl _) (Nat.le_refl _) ?_
      refine am_S1_pI hC dX3_width_33 kX3_41 (m_nlz _ _ _ (by omega)) (Nat.le_of_ble_eq_true rfl) (by decide) (Nat.le_refl _) (Nat.le_refl _) ?_
      rw [Int.toNat_natCast]
      refine am_isub hC dX3_width_36 ?_
      exact am_iret hC hT dX3_width_37 (Nat.le_refl _) (Nat.le_refl _) ⟨sI (by omega), rfl⟩
    · exact absurd c4 (by omega)
theorem r_cmp_eq {a b i : Nat} (h : sh a i = sh b i) (hi : i = 0) : a = b := by subst hi; rwa [sh_0, sh_0] at h
theorem m_compareWith (l : Launch) (g : am_G) {h : am_H} {i j c c' a b : Nat} (w : wN h i c a) (w' : wN h j c' b) : am_Met l g yX3_compareWith (am_W1 yX3_compareWith cX3_compareWith 3 (some .int)) 2 0 0 [.ref i, .ref j] h (pI (cmpN a b) h) := by
  have h0 := w.o
  have h0' := w'.o
  have hn := w.n
  have hn' := w'.n
  refine am_mk [some (.ref i), some (.ref j), none] 1 rfl rfl (by decide +kernel) (fun x hl hg hC hT _ => ?_)
  have loop : ∀ m : Nat, m ≤ szn a → sh a m = sh b m → am_W x 35 0 0 h [some (.ref i), some (.ref j), some (vI ((m : Int) - 1))] [] := by
    intro m
    induction m with
    | zero =>
      intro _ he
      refine am_iload2 hC dX3_compareWith_35 ?_
      refine am_if_lt hC 79 dX3_compareWith_36 rfl (by omega) (fun c36 => ?_) (fun c36 => ?_)
      · refine am_iconst hC dX3_compareWith_79 ?_
        exact am_iret hC hT dX3_compareWith_80 (Nat.le_refl _) (Nat.le_refl _) ⟨sI (by rw [r_cmp_eq he rfl, cmpN_eq]), rfl⟩
      · exact absurd c36 (by omega)
    | succ m ih =>
      intro hm he
      have d1 := dg_lt a m
      have d2 := dg_lt b m
      have e1 := sh_dg a m
      have e2 := sh_dg b m
      rw [show ((m + 1 : Nat) : Int) - 1 = (m : Int) by omega]
      refine am_iload2 hC dX3_compareWith_35 ?_
      refine am_if_lt hC 79 dX3_compareWith_36 rfl (by omega) (fun c36 => ?_) (fun c36 => ?_)
      · exact absurd c36 (by omega)
      · refine am_aload0 hC dX3_compareWith_39 ?_
        refine am_iload2 hC dX3_compareWith_40 ?_
        refine r_limb hC dX3_compareWith_41 kX3_37 (w.lv m) (by omega) (Nat.le_of_ble_eq_true rfl) (by decide) (Nat.le_refl _) (Nat.le_refl _) ?_
        refine am_aload1 hC dX3_compareWith_44 ?_
        refine am_iload2 hC dX3_compareWith_45 ?_
        refine r_limb hC dX3_compareWith_46 kX3_37 (w'.lv m) (by omega) (Nat.le_of_ble_eq_true rfl) (by decide) (Nat.le_refl _) (Nat.le_refl _) ?_
        refine am_lif_eq hC 73 dX3_compareWith_49 dX3_compareWith_50 rfl (by omega) (by omega) (fun c50 => ?_) (fun c50 => ?_)
        · refine am_iinc2 hC dX3_compareWith_73 rfl ?_
          refine am_goto hC 35 dX3_compareWith_76 rfl ?_
          exact ih (by omega) (by omega)
        · refine am_aload0 hC dX3_compareWith_53 ?_
          refine am_iload2 hC dX3_compareWith_54 ?_
          refine r_limb hC dX3_compareWith_55 kX3_37 (w.lv m) (by omega) (Nat.le_of_ble_eq_true rfl) (by decide) (Nat.le_refl _) (Nat.le_refl _) ?_
          refine am_aload1 hC dX3_compareWith_58 ?_
          refine am_iload2 hC dX3_compareWith_59 ?_
          refine r_limb hC dX3_compareWith_60 kX3_37 (w'.lv m) (by omega) (Nat.le_of_ble_eq_true rfl) (by decide) (Nat.le_refl _) (Nat.le_refl _) ?_
          refine am_lif_ge hC 71 dX3_compareWith_63 dX3_compareWith_64 rfl (by omega) (by omega) (fun c64 => ?_) (fun c64 => ?_)
          · refine am_iconst hC dX3_compareWith_71 ?_
            first
            | exact am_iret hC hT dX3_compareWith_72 (Nat.le_refl _) (Nat.le_refl _) ⟨sI (cmpN_lt (by rcases Nat.lt_or_ge a b with q | q; exact q; have := sh_mono m q; omega)).symm, rfl⟩
            | exact am_iret hC hT dX3_compareWith_72 (Nat.le_refl _) (Nat.le_refl _) ⟨sI (cmpN_gt (by rcases Nat.lt_or_ge b a with q | q; exact q; have := sh_mono m q; omega)).symm, rfl⟩
          · refine am_iconst hC dX3_compareWith_67 ?_
            refine am_goto hC 72 dX3_compareWith_68 rfl ?_
            first
            | exact am_iret hC hT dX3_compareWith_72 (Nat.le_refl _) (Nat.le_refl _) ⟨sI (cmpN_lt (by rcases Nat.lt_or_ge a b with q | q; exact q; have := sh_mono m q; omega)).symm, rfl⟩
            | exact am_iret hC hT dX3_compareWith_72 (Nat.le_refl _) (Nat.le_refl _) ⟨sI (cmpN_gt (by rcases Nat.lt_or_ge b a with q | q; exact q; have := sh_mono m q; omega)).symm, rfl⟩
  refine am_aload0 hC dX3_compareWith_0 ?_
  refine am_getf hC dX3_compareWith_1 fX3_26 h0 rfl ?_
  refine am_aload1 hC dX3_compareWith_4 ?_
  refine am_getf hC dX3_compareWith_5 fX3_26 h0' rfl ?_
  refine am_icmp_eq hC 28 dX3_compareWith_8 rfl (by omega) (by omega) (fun c8 => ?_) (fun c8 => ?_)
  · refine am_aload0 hC dX3_compareWith_28 ?_
    refine am_getf hC dX3_compareWith_29 fX3_26 h0 rfl ?_
    refine am_iconst hC dX3_compareWith_32 ?_
    refine am_isub hC dX3_compareWith_33 ?_
    refine am_istore2 hC dX3_compareWith_34 rfl ?_
    exact loop (szn a) (Nat.le_refl _) (by rw [sh_out (Nat.le_refl _), sh_out (by omega)])
  · refine am_aload0 hC dX3_compareWith_11 ?_
    refine am_getf hC dX3_compareWith_12 fX3_26 h0 rfl ?_
    refine am_aload1 hC dX3_compareWith_15 ?_
    refine am_getf hC dX3_compareWith_16 fX3_26 h0' rfl ?_
    refine am_icmp_ge hC 26 dX3_compareWith_19 rfl (by omega) (by omega) (fun c19 => ?_) (fun c19 => ?_)
    · refine am_iconst hC dX3_compareWith_26 ?_
      first
      | exact am_iret hC hT dX3_compareWith_27 (Nat.le_refl _) (Nat.le_refl _) ⟨sI (cmpN_lt (by rcases Nat.lt_or_ge a b with q | q; exact q; have := szn_mono q; omega)).symm, rfl⟩
      | exact am_iret hC hT dX3_compareWith_27 (Nat.le_refl _) (Nat.le_refl _) ⟨sI (cmpN_gt (by rcases Nat.lt_or_ge b a with q | q; exact q; have := szn_mono q; omega)).symm, rfl⟩
    · refine am_iconst hC dX3_compareWith_22 ?_
      refine am_goto hC 27 dX3_compareWith_23 rfl ?_
      first
      | exact am_iret hC hT dX3_compareWith_27 (Nat.le_refl _) (Nat.le_refl _) ⟨sI (cmpN_lt (by rcases Nat.lt_or_ge a b with q | q; exact q; have := szn_mono q; omega)).symm, rfl⟩
      | exact am_iret hC hT dX3_compareWith_27 (Nat.le_refl _) (Nat.le_refl _) ⟨sI (cmpN_gt (by rcases Nat.lt_or_ge b a with q | q; exact q; have := szn_mono q; omega)).symm, rfl⟩
/-! Whole: writes -/
theorem m_become (l : Launch) (g : am_G) {h : am_H} {t x c cx a : Nat} (wt : wC h t c) (w : wN h x cx a) (hc : szn a ≤ c) : am_Met l g yX3_become (am_W1 yX3_become cX3_become 4 none) 3 0 0 [.ref t, .ref x] h (qN fun h1 => wN h1 t c a ∧ only h h1 [t, t + 1]) := by
  obtain ⟨hcc, n0, f0, b⟩ := wt
  have h0 := w.o
  have hn := w.n
  refine am_mk [some (.ref t), some (.ref x), none, none] 2 rfl rfl (by decide +kernel) (fun y hl hg hC hT _ => ?_)
  have loop : ∀ (m k : Nat) (fk : Nat → Int), k + m = szn a → (∀ j, j < k → fk j = (dg a j : Int)) → (∀ j, k ≤ j → fk j = f0 j) → am_W y 7 0 0 (am_up h (t + 1) (eL c fk)) [some (.ref t), some (.ref x), some (vI (szn a : Int)), some (vI (k : Int))] [] := by
    intro m
    induction m with
    | zero =>
      intro k fk hk h1 h2
      refine am_iload3 hC dX3_become_7 ?_
      refine am_iload2 hC dX3_become_8 ?_
      refine am_icmp_ge hC 28 dX3_become_9 rfl (by omega) (by omega) (fun c9 => ?_) (fun c9 => ?_)
      · refine am_aload0 hC dX3_become_28 ?_
        refine am_iload2 hC dX3_become_29 ?_
        refine w_set l hC dX3_become_30 kX3_53 b hcc (by omega) (by rw [Int.toNat_natCast]; exact lt_pow_szn a) (fun j hj => h1 j (by omega)) (Nat.le_of_ble_eq_true rfl) (by decide) (Nat.le_refl _) (Nat.le_refl _) (fun h1 w1 o1 => ?_)
        exact am_vret hC hT dX3_become_33 (Nat.le_refl _) (Nat.le_refl _) ⟨rfl, w1, o1⟩
      · exact absurd c9 (by omega)
    | succ m ih =>
      intro k fk hk h1 h2
      have hl := LV.mid (H := am_up h (t + 1) (eL c fk)) w b hcc (am_up_ne _ _ (by omega)) (am_up_at _ _ _) (fun q _ q2 => am_up_ne _ _ q2) h2
      refine am_iload3 hC dX3_become_7 ?_
      refine am_iload2 hC dX3_become_8 ?_
      refine am_icmp_ge hC 28 dX3_become_9 rfl (by omega) (by omega) (fun c9 => ?_) (fun c9 => ?_)
      · exact absurd c9 (by omega)
      · refine am_aload0 hC dX3_become_12 ?_
        refine am_iload3 hC dX3_become_13 ?_
        refine am_aload1 hC dX3_become_14 ?_
        refine am_iload3 hC dX3_become_15 ?_
        refine r_limb hC dX3_become_16 kX3_37 hl (by omega) (Nat.le_of_ble_eq_true rfl) (by decide) (Nat.le_refl _) (Nat.le_refl _) ?_
        refine r_setLimb hC dX3_become_19 kX3_49 (wC.up b) hcc (by omega) (Nat.le_of_ble_eq_true rfl) (by decide) (Nat.le_refl _) (Nat.le_refl _) ?_
        rw [am_up_up, Int.toNat_natCast]
        refine am_iinc3 hC dX3_become_22 rfl ?_
        refine am_goto hC 7 dX3_become_25 rfl ?_
        exact ih (k + 1) _ (by omega) (fun j hj => by
          by_cases e : j = k
          · subst e; exact am_fu_at
          · rw [am_fu_lt e]; exact h1 j (by omega)) (fun j hj => by rw [am_fu_lt (by omega)]; exact h2 j (by omega))
  refine am_aload1 hC dX3_become_0 ?_
  refine am_getf hC dX3_become_1 fX3_26 h0 rfl ?_
  refine am_istore2 hC dX3_become_4 rfl ?_
  refine am_iconst hC dX3_become_5 ?_
  refine am_istore3 hC dX3_become_6 rfl ?_
  rw [show h = am_up h (t + 1) (eL c f0) from (am_up_self b.2).symm]
  exact loop (szn a) 0 f0 (by omega) (fun j hj => by omega) (fun j _ => rfl)
theorem pB_add {a b n : Nat} (ha : szn a ≤ n) (hb : szn b ≤ n) : a + b < 2147483648 ^ (n + 1) := by
  have h1 := szn_le.mp ha
  have h2 := szn_le.mp hb
  rw [Nat.pow_succ]
  omega
theorem m_setSum (l : Launch) (g : am_G) {h : am_H} {t x y c cx cy a b : Nat} (wt : wC h t c) (wx : wN h x cx a) (wy : wN h y cy b) (hc : max (szn a) (szn b) + 1 ≤ c) : am_Met l g yX3_setSum (am_W1 yX3_setSum cX3_setSum 7 none) 3 0 0 [.ref t, .ref x, .ref y] h (qN fun h1 => wN h1 t c (a + b) ∧ only h h1 [t, t + 1]) := by
  obtain ⟨hcc, n0, f0, bt⟩ := wt
  have h0 := wx.o
  have h0' := wy.o
  have hn := wx.n
  have hn' := wy.n
  refine am_mk [some (.ref t), some (.ref x), some (.ref y), none, none, none, none] 4 rfl rfl (by decide +kernel) (fun q hl hg hC hT _ => ?_)
  have loop : ∀ (m k : Nat) (fk : Nat → Int) (cr : Int), k + m = max (szn a) (szn b) + 1 → cr = (sh (a + b) k : Int) - sh a k - sh b k → 0 ≤ cr ∧ cr ≤ 1 → (∀ j, j < k → fk j = (dg (a + b) j : Int)) → (∀ j, k ≤ j → fk j = f0 j) → am_W q 20 0 0 (am_up h (t + 1) (eL c fk)) [some (.ref t), some (.ref x), some (.ref y), some (vI ((max (szn a) (szn b) + 1 : Nat) : Int)), some (vL cr), none, some (vI (k : Int))] [] := by
    intro m
    induction m with
    | zero =>
      intro k fk cr hk hcr hcr2 h1 h2
      refine am_iload6 hC dX3_setSum_20 ?_
      refine am_iload3 hC dX3_setSum_22 ?_
      refine am_icmp_ge hC 69 dX3_setSum_23 rfl (by omega) (by omega) (fun c23 => ?_) (fun c23 => ?_)
      · refine am_aload0 hC dX3_setSum_69 ?_
        refine am_iload3 hC dX3_setSum_70 ?_
        refine w_set l hC dX3_setSum_71 kX3_53 bt hcc (by omega) (by rw [Int.toNat_natCast]; exact pB_add (Nat.le_max_left _ _) (Nat.le_max_right _ _)) (fun j hj => h1 j (by omega)) (Nat.le_of_ble_eq_true rfl) (by decide) (Nat.le_refl _) (Nat.le_refl _) (fun h1 w1 o1 => ?_)
        exact am_vret hC hT dX3_setSum_74 (Nat.le_refl _) (Nat.le_refl _) ⟨rfl, w1, o1⟩
      · exact absurd c23 (by omega)
    | succ m ih =>
      intro k fk cr hk hcr hcr2 h1 h2
      have hx := LV.mid (H := am_up h (t + 1) (eL c fk)) wx bt hcc (am_up_ne _ _ (by omega)) (am_up_at _ _ _) (fun q _ q2 => am_up_ne _ _ q2) h2
      have hy := LV.mid (H := am_up h (t + 1) (eL c fk)) wy bt hcc (am_up_ne _ _ (by omega)) (am_up_at _ _ _) (fun q _ q2 => am_up_ne _ _ q2) h2
      have d1 := dg_lt a k
      have d2 := dg_lt b k
      have d3 := dg_lt (a + b) k
      have e1 := sh_dg a k
      have e2 := sh_dg b k
      have e3 := sh_dg (a + b) k
      refine am_iload6 hC dX3_setSum_20 ?_
      refine am_iload3 hC dX3_setSum_22 ?_
      refine am_icmp_ge hC 69 dX3_setSum_23 rfl (by omega) (by omega) (fun c23 => ?_) (fun c23 => ?_)
      · exact absurd c23 (by omega)
      · refine am_lload4 hC dX3_setSum_26 ?_
        refine am_aload1 hC dX3_setSum_28 ?_
        refine am_iload6 hC dX3_setSum_29 ?_
        refine r_limb hC dX3_setSum_31 kX3_37 hx (by omega) (Nat.le_of_ble_eq_true rfl) (by decide) (Nat.le_refl _) (Nat.le_refl _) ?_
        refine am_aload2 hC dX3_setSum_34 ?_
        refine am_iload6 hC dX3_setSum_35 ?_
        refine r_limb hC dX3_setSum_37 kX3_37 hy (by omega) (Nat.le_of_ble_eq_true rfl) (by decide) (Nat.le_refl _) (Nat.le_refl _) ?_
        refine am_ladd hC dX3_setSum_40 ?_
        refine am_ladd hC dX3_setSum_41 ?_
        refine am_lstore4 hC dX3_setSum_42 rfl ?_
        refine am_aload0 hC dX3_setSum_44 ?_
        refine am_iload6 hC dX3_setSum_45 ?_
        refine am_lload4 hC dX3_setSum_47 ?_
        refine am_ldc2 hC (2147483647) dX3_setSum_49 cX3_56 rfl ?_
        refine am_land hC 31 2147483648 dX3_setSum_52 (by decide) rfl rfl ?_
        refine r_setLimb hC dX3_setSum_53 kX3_49 (wC.up bt) hcc (by omega) (Nat.le_of_ble_eq_true rfl) (by decide) (Nat.le_refl _) (Nat.le_refl _) ?_
        rw [am_up_up, Int.toNat_natCast]
        refine am_lload4 hC dX3_setSum_56 ?_
        refine am_bipush hC dX3_setSum_58 rfl ?_
        refine am_lshr hC 31 dX3_setSum_60 (by omega) rfl (by decide) ?_
        refine am_lstore4 hC dX3_setSum_61 rfl ?_
        refine am_iinc6 hC dX3_setSum_63 rfl ?_
        refine am_goto hC 20 dX3_setSum_66 rfl ?_
        exact ih (k + 1) _ _ (by omega) (by omega) (by omega) (fun j hj => by
          by_cases e : j = k
          · subst e; rw [am_fu_at]; omega
          · rw [am_fu_lt e]; exact h1 j (by omega)) (fun j hj => by rw [am_fu_lt (by omega)]; exact h2 j (by omega))
  refine am_aload1 hC dX3_setSum_0 ?_
  refine am_getf hC dX3_setSum_1 fX3_26 h0 rfl ?_
  refine am_aload2 hC dX3_setSum_4 ?_
  refine am_getf hC dX3_setSum_5 fX3_26 h0' rfl ?_
  refine am_S2_pI hC dX3_setSum_8 kX3_9 (m_max _ _ _ (by omega) (by omega)) (Nat.le_of_ble_eq_true rfl) (by decide) (Nat.le_refl _) (Nat.le_refl _) ?_
  refine am_iconst hC dX3_setSum_11 ?_
  refine am_iadd hC dX3_setSum_12 ?_
  refine am_istore3 hC dX3_setSum_13 rfl ?_
  refine am_lconst0 hC dX3_setSum_14 ?_
  refine am_lstore4 hC dX3_setSum_15 rfl ?_
  refine am_iconst hC dX3_setSum_17 ?_
  refine am_istore6 hC dX3_setSum_18 rfl ?_
  rw [show h = am_up h (t + 1) (eL c f0) from (am_up_self bt.2).symm, show max (szn a : Int) (szn b : Int) + 1 = ((max (szn a) (szn b) + 1 : Nat) : Int) by omega]
  exact loop _ 0 f0 0 (Nat.zero_add _) (by rw [sh_0, sh_0, sh_0]; omega) (by omega) (fun j hj => by omega) (fun j _ => rfl)
theorem m_setDifference (l : Launch) (g : am_G) {h : am_H} {t x y c cx cy a b : Nat} (wt : wC h t c) (wx : wN h x cx a) (wy : wN h y cy b) (hab : b ≤ a) (hc : szn a ≤ c) : am_Met l g yX3_setDifference (am_W1 yX3_setDifference cX3_setDifference 7 none) 3 0 0 [.ref t, .ref x, .ref y] h (qN fun h1 => wN h1 t c (a - b) ∧ only h h1 [t, t + 1]) := by
  obtain ⟨hcc, n0, f0, bt⟩ := wt
  have h0 := wx.o
  have hn := wx.n
  refine am_mk [some (.ref t), some (.ref x), some (.ref y), none, none, none, none] 4 rfl rfl (by decide +kernel) (fun q hl hg hC hT _ => ?_)
  have loop : ∀ (m k : Nat) (fk : Nat → Int) (cr : Int), k + m = szn a → cr = (sh (a - b) k : Int) - sh a k + sh b k → -1 ≤ cr ∧ cr ≤ 0 → (∀ j, j < k → fk j = (dg (a - b) j : Int)) → (∀ j, k ≤ j → fk j = f0 j) → am_W q 11 0 0 (am_up h (t + 1) (eL c fk)) [some (.ref t), some (.ref x), some (.ref y), some (vI (szn a : Int)), some (vL cr), none, some (vI (k : Int))] [] := by
    intro m
    induction m with
    | zero =>
      intro k fk cr hk hcr hcr2 h1 h2
      refine am_iload6 hC dX3_setDifference_11 ?_
      refine am_iload3 hC dX3_setDifference_13 ?_
      refine am_icmp_ge hC 60 dX3_setDifference_14 rfl (by omega) (by omega) (fun c14 => ?_) (fun c14 => ?_)
      · refine am_aload0 hC dX3_setDifference_60 ?_
        refine am_iload3 hC dX3_setDifference_61 ?_
        refine w_set l hC dX3_setDifference_62 kX3_53 bt hcc (by omega) (by rw [Int.toNat_natCast]; exact Nat.lt_of_le_of_lt (Nat.sub_le _ _) (lt_pow_szn a)) (fun j hj => h1 j (by omega)) (Nat.le_of_ble_eq_true rfl) (by decide) (Nat.le_refl _) (Nat.le_refl _) (fun h1 w1 o1 => ?_)
        exact am_vret hC hT dX3_setDifference_65 (Nat.le_refl _) (Nat.le_refl _) ⟨rfl, w1, o1⟩
      · exact absurd c14 (by omega)
    | succ m ih =>
      intro k fk cr hk hcr hcr2 h1 h2
      have hx := LV.mid (H := am_up h (t + 1) (eL c fk)) wx bt hcc (am_up_ne _ _ (by omega)) (am_up_at _ _ _) (fun q _ q2 => am_up_ne _ _ q2) h2
      have hy := LV.mid (H := am_up h (t + 1) (eL c fk)) wy bt hcc (am_up_ne _ _ (by omega)) (am_up_at _ _ _) (fun q _ q2 => am_up_ne _ _ q2) h2
      have d1 := dg_lt a k
      have d2 := dg_lt b k
      have d3 := dg_lt (a - b) k
      have e1 := sh_dg a k
      have e2 := sh_dg b k
      have e3 := sh_dg (a - b) k
      refine am_iload6 hC dX3_setDifference_11 ?_
      refine am_iload3 hC dX3_setDifference_13 ?_
      refine am_icmp_ge hC 60 dX3_setDifference_14 rfl (by omega) (by omega) (fun c14 => ?_) (fun c14 => ?_)
      · exact absurd c14 (by omega)
      · refine am_lload4 hC dX3_setDifference_17 ?_
        refine am_aload1 hC dX3_setDifference_19 ?_
        refine am_iload6 hC dX3_setDifference_20 ?_
        refine r_limb hC dX3_setDifference_22 kX3_37 hx (by omega) (Nat.le_of_ble_eq_true rfl) (by decide) (Nat.le_refl _) (Nat.le_refl _) ?_
        refine am_aload2 hC dX3_setDifference_25 ?_
        refine am_iload6 hC dX3_setDifference_26 ?_
        refine r_limb hC dX3_setDifference_28 kX3_37 hy (by omega) (Nat.le_of_ble_eq_true rfl) (by decide) (Nat.le_refl _) (Nat.le_refl _) ?_
        refine am_lsub hC dX3_setDifference_31 ?_
        refine am_ladd hC dX3_setDifference_32 ?_
        refine am_lstore4 hC dX3_setDifference_33 rfl ?_
        refine am_aload0 hC dX3_setDifference_35 ?_
        refine am_iload6 hC dX3_setDifference_36 ?_
        refine am_lload4 hC dX3_setDifference_38 ?_
        refine am_ldc2 hC (2147483647) dX3_setDifference_40 cX3_56 rfl ?_
        refine am_land hC 31 2147483648 dX3_setDifference_43 (by decide) rfl rfl ?_
        refine r_setLimb hC dX3_setDifference_44 kX3_49 (wC.up bt) hcc (by omega) (Nat.le_of_ble_eq_true rfl) (by decide) (Nat.le_refl _) (Nat.le_refl _) ?_
        rw [am_up_up, Int.toNat_natCast]
        refine am_lload4 hC dX3_setDifference_47 ?_
        refine am_bipush hC dX3_setDifference_49 rfl ?_
        refine am_lshr hC 31 dX3_setDifference_51 (by omega) rfl (by decide) ?_
        refine am_lstore4 hC dX3_setDifference_52 rfl ?_
        refine am_iinc6 hC dX3_setDifference_54 rfl ?_
        refine am_goto hC 11 dX3_setDifference_57 rfl ?_
        exact ih (k + 1) _ _ (by omega) (by omega) (by omega) (fun j hj => by
          by_cases e : j = k
          · subst e; rw [am_fu_at]; omega
          · rw [am_fu_lt e]; exact h1 j (by omega)) (fun j hj => by rw [am_fu_lt (by omega)]; exact h2 j (by omega))
  refine am_aload1 hC dX3_setDifference_0 ?_
  refine am_getf hC dX3_setDifference_1 fX3_26 h0 rfl ?_
  refine am_istore3 hC dX3_setDifference_4 rfl ?_
  refine am_lconst0 hC dX3_setDifference_5 ?_
  refine am_lstore4 hC dX3_setDifference_6 rfl ?_
  refine am_iconst hC dX3_setDifference_8 ?_
  refine am_istore6 hC dX3_setDifference_9 rfl ?_
  rw [show h = am_up h (t + 1) (eL c f0) from (am_up_self bt.2).symm]
  exact loop _ 0 f0 0 (Nat.zero_add _) (by rw [sh_0, sh_0, sh_0]; omega) (by omega) (fun j hj => by omega) (fun j _ => rfl)

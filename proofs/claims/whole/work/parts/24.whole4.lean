/-! Whole: products, shifts, quotients by one limb -/
theorem am_up_comm (h : am_H) {i j : Nat} (e e' : am_E) (q : i ≠ j) : am_up (am_up h i e) j e' = am_up (am_up h j e') i e := by
  unfold am_up
  congr 1
  funext r
  by_cases a : r = i
  · subst a; simp [q]
  · simp [a]
theorem mul_lim {a b : Nat} (ha : a < 2147483648) (hb : b < 2147483648) : a * b ≤ 4611686014132420609 := Nat.le_trans (Nat.mul_le_mul (Nat.le_of_lt_succ ha) (Nat.le_of_lt_succ hb)) (by decide)
theorem dg_of {a j : Nat} (h : sh a j < 2147483648) : dg a j = sh a j := Nat.mod_eq_of_lt h
theorem mod_sz (a : Nat) : a % 2147483648 ^ szn a = a := Nat.mod_eq_of_lt (lt_pow_szn a)
theorem pr_step (a b k : Nat) : a % 2147483648 ^ (k + 1) * b = a % 2147483648 ^ k * b + dg a k * b * 2147483648 ^ k := by
  rw [Nat.mod_pow_succ, Nat.add_mul]
  congr 1
  unfold dg sh
  rw [Nat.mul_comm (2147483648 ^ k), Nat.mul_right_comm]
theorem pr_lt (a k : Nat) {b m : Nat} (hb : szn b ≤ m) : a % 2147483648 ^ k * b < 2147483648 ^ (k + m) := by
  have h1 : a % 2147483648 ^ k < 2147483648 ^ k := Nat.mod_lt _ (pB k)
  rw [Nat.pow_add]
  exact Nat.mul_lt_mul'' h1 (szn_le.mp hb)
theorem pr_sh (r s k : Nat) : sh (r + s * 2147483648 ^ k) k = sh r k + s := Nat.add_mul_div_right _ _ (pB k)
/-- one limb's turn: the digit, and what is carried -/
theorem pr_turn {F R X Bj cr r0 x0 b0 R1 X1 B1 : Nat} (hX : X = R + F * Bj + cr) (e1 : X = 2147483648 * X1 + x0) (e2 : R = 2147483648 * R1 + r0) (e3 : Bj = 2147483648 * B1 + b0) (hx : x0 < 2147483648) : F * b0 + r0 + cr = 2147483648 * (X1 - R1 - F * B1) + x0 ∧ R1 + F * B1 ≤ X1 := by
  have h1 : F * Bj = 2147483648 * (F * B1) + F * b0 := by rw [e3, Nat.mul_add, Nat.mul_left_comm]
  generalize F * B1 = u at *
  generalize F * b0 = v at *
  omega
theorem m_setProduct (l : Launch) (g : am_G) {h : am_H} {t x y c cx cy a b : Nat} (wt : wC h t c) (wx : wN h x cx a) (wy : wN h y cy b) (hc : szn a + szn b ≤ c) (qx : x ≠ t) (qy : y ≠ t) : am_Met l g yX3_setProduct (am_W1 yX3_setProduct cX3_setProduct 10 none) 3 0 0 [.ref t, .ref x, .ref y] h (qN fun h1 => wN h1 t c (a * b) ∧ only h h1 [t, t + 1]) := by
  have wt0 := wt
  obtain ⟨hcc, n0, f0, bt⟩ := wt
  have h0 := wx.o
  have h0' := wy.o
  have hn := wx.n
  have hn' := wy.n
  refine am_mk [some (.ref t), some (.ref x), some (.ref y), none, none, none, none, none, none, none] 7 rfl rfl (by decide +kernel) (fun q hl hg hC hT _ => ?_)
  obtain ⟨hh, ehh⟩ : ∃ hh, hh = am_up h t (eO 3 [.ref (t + 1), vI ((szn a + szn b : Nat) : Int)]) := ⟨_, rfl⟩
  have bh : wO hh t ((szn a + szn b : Nat) : Int) c f0 := by subst ehh; exact ⟨am_up_at _ _ _, by rw [am_up_ne _ _ (by omega)]; exact bt.2⟩
  have oh : only h hh [t, t + 1] := by subst ehh; exact ⟨rfl, fun r hr => am_up_ne _ _ (fun e => hr (by simp [e]))⟩
  have ou : ∀ f : Nat → Int, only h (am_up hh (t + 1) (eL c f)) [t, t + 1] := fun f => oh.tr ⟨rfl, fun r hr => am_up_ne _ _ (fun e => hr (by simp [e]))⟩
  have wxo : ∀ f : Nat → Int, wN (am_up hh (t + 1) (eL c f)) x cx a := fun f => wx.off wt0 qx (ou f)
  have wyo : ∀ f : Nat → Int, wN (am_up hh (t + 1) (eL c f)) y cy b := fun f => wy.off wt0 qy (ou f)
  have outer : ∀ (m k : Nat) (f : Nat → Int) (y5 y6 y7 y8 y9 : Option Value), k + m = szn a → (∀ j, j < szn a + szn b → f j = (dg (a % 2147483648 ^ k * b) j : Int)) → am_W q 40 0 0 (am_up hh (t + 1) (eL c f)) [some (.ref t), some (.ref x), some (.ref y), some (vI ((szn a + szn b : Nat) : Int)), some (vI (k : Int)), y5, y6, y7, y8, y9] [] := by
    intro m
    induction m with
    | zero =>
      intro k f y5 y6 y7 y8 y9 hk hf
      have h0 := (wxo f).o
      refine am_iload4 hC dX3_setProduct_40 ?_
      refine am_aload1 hC dX3_setProduct_42 ?_
      refine am_getf hC dX3_setProduct_43 fX3_26 h0 rfl ?_
      refine am_icmp_ge hC 143 dX3_setProduct_46 rfl (by omega) (by omega) (fun c46 => ?_) (fun c46 => ?_)
      · refine am_aload0 hC dX3_setProduct_143 ?_
        refine am_iload3 hC dX3_setProduct_144 ?_
        refine w_set l hC dX3_setProduct_145 kX3_53 bh hcc (by omega) (r := a * b) (by rw [Int.toNat_natCast, Nat.pow_add]; exact Nat.mul_lt_mul'' (lt_pow_szn a) (lt_pow_szn b)) (fun j hj => by rw [hf j (by omega), show k = szn a by omega, mod_sz]) (Nat.le_of_ble_eq_true rfl) (by decide) (Nat.le_refl _) (Nat.le_refl _) (fun h1 w1 o1 => ?_)
        exact am_vret hC hT dX3_setProduct_148 (Nat.le_refl _) (Nat.le_refl _) ⟨rfl, w1, oh.tr o1⟩
      · exact absurd c46 (by omega)
    | succ m ih =>
      intro k f y5 y6 y7 y8 y9 hk hf
      have h0 := (wxo f).o
      obtain ⟨r, hr⟩ : ∃ r, r = a % 2147483648 ^ k * b := ⟨_, rfl⟩
      obtain ⟨r', hr'⟩ : ∃ r', r' = a % 2147483648 ^ (k + 1) * b := ⟨_, rfl⟩
      rw [← hr] at hf
      have hF := dg_lt a k
      have inner : ∀ (m2 j : Nat) (f : Nat → Int) (cr : Nat), j + m2 = szn b → sh r' (k + j) = sh r (k + j) + dg a k * sh b j + cr → cr < 2147483648 → (∀ q, q < k + j → f q = (dg r' q : Int)) → (∀ q, k + j ≤ q → q < szn a + szn b → f q = (dg r q : Int)) → am_W q 63 0 0 (am_up hh (t + 1) (eL c f)) [some (.ref t), some (.ref x), some (.ref y), some (vI ((szn a + szn b : Nat) : Int)), some (vI (k : Int)), some (vL (dg a k : Int)), none, some (vL (cr : Int)), none, some (vI (j : Int))] [] := by
        intro m2
        induction m2 with
        | zero =>
          intro j f cr hj hcr hcr2 h1 h2
          have h0' := (wyo f).o
          have ej : j = szn b := by omega
          subst ej
          have z1 : sh r (k + szn b) = 0 := Nat.div_eq_of_lt (by rw [hr]; exact pr_lt a k (Nat.le_refl _))
          have z2 : sh b (szn b) = 0 := sh_out (Nat.le_refl _)
          have z3 : r' < 2147483648 ^ (k + 1 + szn b) := by rw [hr']; exact pr_lt a (k + 1) (Nat.le_refl _)
          rw [z1, z2, Nat.mul_zero] at hcr
          refine am_iload9 hC dX3_setProduct_63 ?_
          refine am_aload2 hC dX3_setProduct_65 ?_
          refine am_getf hC dX3_setProduct_66 fX3_26 h0' rfl ?_
          refine am_icmp_ge hC 124 dX3_setProduct_69 rfl (by omega) (by omega) (fun c69 => ?_) (fun c69 => ?_)
          · refine am_aload0 hC dX3_setProduct_124 ?_
            refine am_iload4 hC dX3_setProduct_125 ?_
            refine am_aload2 hC dX3_setProduct_127 ?_
            refine am_getf hC dX3_setProduct_128 fX3_26 h0' rfl ?_
            refine am_iadd hC dX3_setProduct_131 ?_
            refine am_lload7 hC dX3_setProduct_132 ?_
            refine r_setLimb hC dX3_setProduct_134 kX3_49 (wC.up bh) hcc (by omega) (Nat.le_of_ble_eq_true rfl) (by decide) (Nat.le_refl _) (Nat.le_refl _) ?_
            rw [am_up_up, show ((k : Int) + (szn b : Int)).toNat = k + szn b by omega]
            refine am_iinc4 hC dX3_setProduct_137 rfl ?_
            refine am_goto hC 40 dX3_setProduct_140 rfl ?_
            refine ih (k + 1) _ _ _ _ _ _ (by omega) (fun j hj => ?_)
            rw [← hr']
            by_cases e : j = k + szn b
            · subst e
              rw [am_fu_at, dg_of (by omega)]
              omega
            · rw [am_fu_lt e]
              by_cases e2 : j < k + szn b
              · exact h1 j e2
              · rw [h2 j (by omega) hj, dg_out (a := r) (szn_le.mpr (Nat.lt_of_lt_of_le (by rw [hr]; exact pr_lt a k (Nat.le_refl _)) (Nat.pow_le_pow_right (by decide) (by omega)))), dg_out (a := r') (szn_le.mpr (Nat.lt_of_lt_of_le z3 (Nat.pow_le_pow_right (by decide) (by omega))))]
          · exact absurd c69 (by omega)
        | succ m2 ih2 =>
          intro j f cr hj hcr hcr2 h1 h2
          have h0' := (wyo f).o
          have lt : LV (am_up hh (t + 1) (eL c f)) t ((k + j : Nat) : Int) (dg r (k + j) : Int) := ⟨_, c, f, wC.up bh, by omega, hcc, by rw [if_pos (by omega), Int.toNat_natCast]; exact h2 _ (Nat.le_refl _) (by omega)⟩
          have g1 := dg_lt b j
          have g2 := dg_lt r (k + j)
          have g3 := dg_lt r' (k + j)
          have tn := pr_turn hcr (sh_dg r' (k + j)) (sh_dg r (k + j)) (sh_dg b j) g3
          have ml := mul_lim hF g1
          have e0 : (dg a k : Int) * (dg b j : Int) = ((dg a k * dg b j : Nat) : Int) := by push_cast; rfl
          have hlt : dg a k * dg b j + dg r (k + j) + cr < 2147483648 * 2147483648 := by omega
          refine am_iload9 hC dX3_setProduct_63 ?_
          refine am_aload2 hC dX3_setProduct_65 ?_
          refine am_getf hC dX3_setProduct_66 fX3_26 h0' rfl ?_
          refine am_icmp_ge hC 124 dX3_setProduct_69 rfl (by omega) (by omega) (fun c69 => ?_) (fun c69 => ?_)
          · exact absurd c69 (by omega)
          · refine am_lload7 hC dX3_setProduct_72 ?_
            refine am_lload5 hC dX3_setProduct_74 ?_
            refine am_aload2 hC dX3_setProduct_76 ?_
            refine am_iload9 hC dX3_setProduct_77 ?_
            refine r_limb hC dX3_setProduct_79 kX3_37 ((wyo f).lv j) (by omega) (Nat.le_of_ble_eq_true rfl) (by decide) (Nat.le_refl _) (Nat.le_refl _) ?_
            refine am_lmul hC dX3_setProduct_82 ?_
            refine am_aload0 hC dX3_setProduct_83 ?_
            refine am_iload4 hC dX3_setProduct_84 ?_
            refine am_iload9 hC dX3_setProduct_86 ?_
            refine am_iadd hC dX3_setProduct_88 ?_
            rw [show (k : Int) + (j : Int) = ((k + j : Nat) : Int) by omega]
            refine r_limb hC dX3_setProduct_89 kX3_37 lt (by omega) (Nat.le_of_ble_eq_true rfl) (by decide) (Nat.le_refl _) (Nat.le_refl _) ?_
            rw [e0]
            refine am_ladd hC dX3_setProduct_92 ?_
            refine am_ladd hC dX3_setProduct_93 ?_
            refine am_lstore7 hC dX3_setProduct_94 rfl ?_
            refine am_aload0 hC dX3_setProduct_96 ?_
            refine am_iload4 hC dX3_setProduct_97 ?_
            refine am_iload9 hC dX3_setProduct_99 ?_
            refine am_iadd hC dX3_setProduct_101 ?_
            refine am_lload7 hC dX3_setProduct_102 ?_
            refine am_ldc2 hC (2147483647) dX3_setProduct_104 cX3_56 rfl ?_
            refine am_land hC 31 2147483648 dX3_setProduct_107 (by decide) rfl rfl ?_
            refine r_setLimb hC dX3_setProduct_108 kX3_49 (wC.up bh) hcc (by omega) (Nat.le_of_ble_eq_true rfl) (by decide) (Nat.le_refl _) (Nat.le_refl _) ?_
            rw [am_up_up, show ((k : Int) + (j : Int)).toNat = k + j by omega]
            refine am_lload7 hC dX3_setProduct_111 ?_
            refine am_bipush hC dX3_setProduct_113 rfl ?_
            refine am_lshr hC 31 dX3_setProduct_115 (by omega) rfl (by decide) ?_
            refine am_lstore7 hC dX3_setProduct_116 rfl ?_
            refine am_iinc9 hC dX3_setProduct_118 rfl ?_
            refine am_goto hC 63 dX3_setProduct_121 rfl ?_
            rw [show ((cr : Int) + (((dg a k * dg b j : Nat) : Int) + (dg r (k + j) : Int))) / 2 ^ 31 = ((sh r' (k + j + 1) - sh r (k + j + 1) - dg a k * sh b (j + 1) : Nat) : Int) by omega]
            refine ih2 (j + 1) _ _ (by omega) (by rw [← Nat.add_assoc]; omega) (by omega) (fun p hp => ?_) (fun p hp hp2 => ?_)
            · by_cases e : p = k + j
              · subst e; rw [am_fu_at]; omega
              · rw [am_fu_lt e]; exact h1 p (by omega)
            · rw [am_fu_lt (by omega)]; exact h2 p (by omega) hp2
      refine am_iload4 hC dX3_setProduct_40 ?_
      refine am_aload1 hC dX3_setProduct_42 ?_
      refine am_getf hC dX3_setProduct_43 fX3_26 h0 rfl ?_
      refine am_icmp_ge hC 143 dX3_setProduct_46 rfl (by omega) (by omega) (fun c46 => ?_) (fun c46 => ?_)
      · exact absurd c46 (by omega)
      · refine am_aload1 hC dX3_setProduct_49 ?_
        refine am_iload4 hC dX3_setProduct_50 ?_
        refine r_limb hC dX3_setProduct_52 kX3_37 ((wxo f).lv k) (by omega) (Nat.le_of_ble_eq_true rfl) (by decide) (Nat.le_refl _) (Nat.le_refl _) ?_
        refine am_lstore5 hC dX3_setProduct_55 rfl ?_
        refine am_lconst0 hC dX3_setProduct_57 ?_
        refine am_lstore7 hC dX3_setProduct_58 rfl ?_
        refine am_iconst hC dX3_setProduct_60 ?_
        refine am_istore9 hC dX3_setProduct_61 rfl ?_
        refine inner _ 0 f 0 (Nat.zero_add _) ?_ (by omega) (fun p hp => ?_) (fun p hp hp2 => hf p hp2)
        · rw [Nat.add_zero, hr', pr_step, pr_sh, ← hr, sh_0, Nat.add_zero]
        · rw [hf p (by omega), hr', pr_step, ← hr]
          congr 1
          unfold dg sh
          have e8 : (2147483648 : Nat) ^ k = 2147483648 * 2147483648 ^ (k - 1 - p) * 2147483648 ^ p := by
            rw [← Nat.pow_succ', ← Nat.pow_add]; congr 1; omega
          rw [e8, ← Nat.mul_assoc, Nat.add_mul_div_right _ _ (pB p), Nat.mul_left_comm, Nat.add_mul_mod_self_left]
  have zero : ∀ (m k : Nat) (f : Nat → Int), k + m = szn a + szn b → (∀ j, j < k → f j = 0) → am_W q 13 0 0 (am_up h (t + 1) (eL c f)) [some (.ref t), some (.ref x), some (.ref y), some (vI ((szn a + szn b : Nat) : Int)), some (vI (k : Int)), none, none, none, none, none] [] := by
    intro m
    induction m with
    | zero =>
      intro k f hk hf
      have hb := (wC.up (f' := f) bt).1
      refine am_iload4 hC dX3_setProduct_13 ?_
      refine am_iload3 hC dX3_setProduct_15 ?_
      refine am_icmp_ge hC 32 dX3_setProduct_16 rfl (by omega) (by omega) (fun c16 => ?_) (fun c16 => ?_)
      · refine am_aload0 hC dX3_setProduct_32 ?_
        refine am_iload3 hC dX3_setProduct_33 ?_
        refine am_putf hC dX3_setProduct_34 pX3_26 (fun q => by cases q) hb (am_fitI _) (Nat.le_of_ble_eq_true rfl) ?_
        refine am_iconst hC dX3_setProduct_37 ?_
        refine am_istore4 hC dX3_setProduct_38 rfl ?_
        rw [am_up_comm _ _ _ (by omega), List.set_cons_succ, List.set_cons_zero, ← ehh]
        refine outer _ 0 f _ _ _ _ _ (Nat.zero_add _) (fun j hj => ?_)
        rw [hf j (by omega), Nat.pow_zero, Nat.mod_one, Nat.zero_mul]
        simp [dg, sh]
      · exact absurd c16 (by omega)
    | succ m ih =>
      intro k f hk hf
      refine am_iload4 hC dX3_setProduct_13 ?_
      refine am_iload3 hC dX3_setProduct_15 ?_
      refine am_icmp_ge hC 32 dX3_setProduct_16 rfl (by omega) (by omega) (fun c16 => ?_) (fun c16 => ?_)
      · exact absurd c16 (by omega)
      · refine am_aload0 hC dX3_setProduct_19 ?_
        refine am_iload4 hC dX3_setProduct_20 ?_
        refine am_lconst0 hC dX3_setProduct_22 ?_
        refine r_setLimb hC dX3_setProduct_23 kX3_49 (wC.up bt) hcc (by omega) (Nat.le_of_ble_eq_true rfl) (by decide) (Nat.le_refl _) (Nat.le_refl _) ?_
        rw [am_up_up, Int.toNat_natCast]
        refine am_iinc4 hC dX3_setProduct_26 rfl ?_
        refine am_goto hC 13 dX3_setProduct_29 rfl ?_
        exact ih (k + 1) _ (by omega) (fun j hj => by
          by_cases e : j = k
          · subst e; exact am_fu_at
          · rw [am_fu_lt e]; exact hf j (by omega))
  refine am_aload1 hC dX3_setProduct_0 ?_
  refine am_getf hC dX3_setProduct_1 fX3_26 h0 rfl ?_
  refine am_aload2 hC dX3_setProduct_4 ?_
  refine am_getf hC dX3_setProduct_5 fX3_26 h0' rfl ?_
  refine am_iadd hC dX3_setProduct_8 ?_
  refine am_istore3 hC dX3_setProduct_9 rfl ?_
  refine am_iconst hC dX3_setProduct_10 ?_
  refine am_istore4 hC dX3_setProduct_11 rfl ?_
  rw [show h = am_up h (t + 1) (eL c f0) from (am_up_self bt.2).symm, show (szn a : Int) + (szn b : Int) = ((szn a + szn b : Nat) : Int) by omega]
  exact zero _ 0 f0 (Nat.zero_add _) (fun j hj => by omega)

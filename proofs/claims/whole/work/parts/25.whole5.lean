/-! Whole: shifts, numbers of a long, quotients by one limb, windows; making one -/
theorem two31 (p : Nat) (hp : p ≤ 31) : (2147483648 : Nat) = 2 ^ (31 - p) * 2 ^ p := by
  rw [← Nat.pow_add, show 31 - p + p = 31 by omega]
theorem sh_pow (a i : Nat) : sh a i = a / 2 ^ (31 * i) := by
  unfold sh; rw [Nat.pow_mul]
/-- a limb of a shifted number: out of two of the number's own -/
theorem shl_dg (a m p : Nat) (hp : p < 31) : (sh a (m + 1) * 2 ^ p + dg a m / 2 ^ (31 - p)) = sh a m / 2 ^ (31 - p) := by
  have e := sh_dg a m
  have e2 := two31 p (by omega)
  have hpos := Nat.two_pow_pos (31 - p)
  rw [e, show 2147483648 * sh a (m + 1) + dg a m = dg a m + 2 ^ (31 - p) * (sh a (m + 1) * 2 ^ p) by rw [show 2147483648 * sh a (m + 1) = 2 ^ (31 - p) * 2 ^ p * sh a (m + 1) by rw [← e2], Nat.mul_assoc, Nat.mul_comm (2 ^ p), Nat.add_comm], Nat.add_mul_div_left _ _ hpos, Nat.add_comm]
theorem shl_mod (A p v : Nat) : (A % 2147483648 * 2 ^ p + v) % 2147483648 = (A * 2 ^ p + v) % 2147483648 := by
  rw [Nat.add_mod, Nat.mul_mod, Nat.mod_mod, ← Nat.mul_mod, ← Nat.add_mod]
theorem shl_hi (a s m : Nat) : sh (a * 2 ^ s) (m + 1 + s / 31) = sh a m / 2 ^ (31 - s % 31) := by
  have h1 : s % 31 < 31 := Nat.mod_lt _ (by decide)
  rw [sh_pow, sh_pow, Nat.div_div_eq_div_mul, ← Nat.pow_add, show 31 * (m + 1 + s / 31) = s + (31 * m + (31 - s % 31)) by omega, Nat.pow_add, Nat.mul_comm a, Nat.mul_div_mul_left _ _ (Nat.two_pow_pos s)]
theorem shl_0 (a s : Nat) : sh (a * 2 ^ s) (s / 31) = a * 2 ^ (s % 31) := by
  rw [sh_pow, show a * 2 ^ s = a * 2 ^ (s % 31) * 2 ^ (31 * (s / 31)) by rw [Nat.mul_assoc, ← Nat.pow_add]; congr 2; omega, Nat.mul_div_cancel _ (Nat.two_pow_pos _)]
theorem shl_lo (a s i : Nat) (hi : i < s / 31) : dg (a * 2 ^ s) i = 0 := by
  unfold dg
  rw [sh_pow, show a * 2 ^ s = a * 2 ^ (s - 31 * i - 31) * 2147483648 * 2 ^ (31 * i) by
    rw [show (2147483648 : Nat) = 2 ^ 31 from rfl, Nat.mul_assoc, Nat.mul_assoc, ← Nat.pow_add, ← Nat.pow_add]; congr 2; omega, Nat.mul_div_cancel _ (Nat.two_pow_pos _), Nat.mul_mod_left]
def dgi (a : Nat) (j : Int) : Nat := if j < 0 then 0 else dg a j.toNat
theorem wR.lvi {h : am_H} {i c n a : Nat} (w : wR h i c n a) (j : Int) : LV h i j (dgi a j : Int) := by
  unfold dgi
  split
  · rename_i q; exact w.lv0 q
  · rename_i q
    have := w.lv j.toNat
    rwa [Int.toNat_of_nonneg (by omega)] at this
theorem dgi_lt (a : Nat) (j : Int) : dgi a j < 2147483648 := by
  unfold dgi; split
  · decide
  · exact dg_lt _ _
theorem shl_limb (a s i : Nat) : (dgi a ((i : Int) - (s / 31 : Nat)) * 2 ^ (s % 31) + dgi a ((i : Int) - (s / 31 : Nat) - 1) / 2 ^ (31 - s % 31)) % 2147483648 = dg (a * 2 ^ s) i := by
  have h1 : s % 31 < 31 := Nat.mod_lt _ (by decide)
  rcases Nat.lt_trichotomy i (s / 31) with q | q | q
  · rw [shl_lo a s i q]
    unfold dgi
    rw [if_pos (by omega), if_pos (by omega), Nat.zero_mul, Nat.zero_div]
  · subst q
    unfold dgi
    rw [if_neg (by omega), if_pos (by omega), Nat.zero_div, show ((s / 31 : Nat) : Int) - ((s / 31 : Nat) : Int) = 0 by omega]
    show (dg a 0 * _ + 0) % _ = _
    unfold dg
    rw [shl_mod, shl_0, sh_0]
    rfl
  · obtain ⟨m, hm⟩ : ∃ m, i = m + 1 + s / 31 := ⟨i - s / 31 - 1, by omega⟩
    subst hm
    unfold dgi
    rw [if_neg (by omega), if_neg (by omega), show (((m + 1 + s / 31 : Nat) : Int) - (s / 31 : Nat)).toNat = m + 1 by omega, show (((m + 1 + s / 31 : Nat) : Int) - (s / 31 : Nat) - 1).toNat = m by omega]
    rw [show dg a (m + 1) = sh a (m + 1) % 2147483648 from rfl, shl_mod, shl_dg a m _ h1]
    unfold dg
    rw [shl_hi]
theorem shl_fit {a s n : Nat} (h : szn a ≤ n) : a * 2 ^ s < 2147483648 ^ (n + s / 31 + 1) := by
  have h1 := szn_le.mp h
  rw [show (2147483648 : Nat) = 2 ^ 31 from rfl, ← Nat.pow_mul] at h1 ⊢
  rw [show 31 * (n + s / 31 + 1) = 31 * n + (31 * (s / 31) + 31) by omega, Nat.pow_add]
  exact Nat.lt_of_lt_of_le (Nat.mul_lt_mul_of_pos_right h1 (Nat.two_pow_pos s)) (Nat.mul_le_mul_left _ (Nat.pow_le_pow_right (by decide) (by omega)))
theorem m_setShifted (l : Launch) (g : am_G) {h : am_H} {t x c cx a s : Nat} (wt : wC h t c) (w : wN h x cx a) (hs : s ≤ 100000) (hc : szn a + s / 31 + 1 ≤ c) (qx : x ≠ t) : am_Met l g yX3_setShifted (am_W1 yX3_setShifted cX3_setShifted 9 none) 3 0 0 [.ref t, .ref x, vI (s : Int)] h (qN fun h1 => wN h1 t c (a * 2 ^ s) ∧ only h h1 [t, t + 1]) := by
  have wt0 := wt
  obtain ⟨hcc, n0, f0, b⟩ := wt
  have h0 := w.o
  have hn := w.n
  have hp : s % 31 < 31 := Nat.mod_lt _ (by decide)
  obtain ⟨u, hu⟩ : ∃ u, u = szn a + s / 31 + 1 := ⟨_, rfl⟩
  refine am_mk [some (.ref t), some (.ref x), some (vI (s : Int)), none, none, none, none, none, none] 6 rfl rfl (by decide +kernel) (fun y hl hg hC hT _ => ?_)
  have wxo : ∀ f : Nat → Int, wN (am_up h (t + 1) (eL c f)) x cx a := fun f => w.off wt0 qx ⟨rfl, fun r hr => am_up_ne _ _ (fun e => hr (by simp [e]))⟩
  have loop : ∀ (k : Nat) (fk : Nat → Int) (y7 y8 : Option Value), k ≤ u → (∀ j, k ≤ j → j < u → fk j = (dg (a * 2 ^ s) j : Int)) → am_W y 27 0 0 (am_up h (t + 1) (eL c fk)) [some (.ref t), some (.ref x), some (vI (s : Int)), some (vI ((s / 31 : Nat) : Int)), some (vI ((s % 31 : Nat) : Int)), some (vI (u : Int)), some (vI ((k : Int) - 1)), y7, y8] [] := by
    intro k
    induction k with
    | zero =>
      intro fk y7 y8 hk h1
      refine am_iload6 hC dX3_setShifted_27 ?_
      refine am_if_lt hC 80 dX3_setShifted_29 rfl (by omega) (fun c29 => ?_) (fun c29 => ?_)
      · refine am_aload0 hC dX3_setShifted_80 ?_
        refine am_iload5 hC dX3_setShifted_81 ?_
        refine w_set l hC dX3_setShifted_83 kX3_53 b hcc (by omega) (r := a * 2 ^ s) (by rw [Int.toNat_natCast, hu]; exact shl_fit (Nat.le_refl _)) (fun j hj => h1 j (by omega) (by omega)) (Nat.le_of_ble_eq_true rfl) (by decide) (Nat.le_refl _) (Nat.le_refl _) (fun h1 w1 o1 => ?_)
        exact am_vret hC hT dX3_setShifted_86 (Nat.le_refl _) (Nat.le_refl _) ⟨rfl, w1, o1⟩
      · exact absurd c29 (by omega)
    | succ k ih =>
      intro fk y7 y8 hk h1
      rw [show ((k + 1 : Nat) : Int) - 1 = (k : Int) by omega]
      have d1 := dgi_lt a ((k : Int) - (s / 31 : Nat))
      have d2 := dgi_lt a ((k : Int) - (s / 31 : Nat) - 1)
      have e2 := two31 (s % 31) (by omega)
      have lm := shl_limb a s k
      have hq : dgi a ((k : Int) - (s / 31 : Nat) - 1) / 2 ^ (31 - s % 31) < 2 ^ (s % 31) := by rw [Nat.div_lt_iff_lt_mul (Nat.two_pow_pos _), Nat.mul_comm, ← e2]; exact d2
      have c1 : ((dgi a ((k : Int) - (s / 31 : Nat) - 1) : Nat) : Int) / 2 ^ (31 - s % 31) = ((dgi a ((k : Int) - (s / 31 : Nat) - 1) / 2 ^ (31 - s % 31) : Nat) : Int) := by push_cast; rfl
      have c2 : ((dgi a ((k : Int) - (s / 31 : Nat)) : Nat) : Int) * 2 ^ (s % 31) = ((dgi a ((k : Int) - (s / 31 : Nat)) * 2 ^ (s % 31) : Nat) : Int) := by push_cast; rfl
      have c3 : ((2 ^ (s % 31) : Nat) : Int) = 2 ^ (s % 31) := by push_cast; rfl
      refine am_iload6 hC dX3_setShifted_27 ?_
      refine am_if_lt hC 80 dX3_setShifted_29 rfl (by omega) (fun c29 => ?_) (fun c29 => ?_)
      · exact absurd c29 (by omega)
      · refine am_aload1 hC dX3_setShifted_32 ?_
        refine am_iload6 hC dX3_setShifted_33 ?_
        refine am_iload3 hC dX3_setShifted_35 ?_
        refine am_isub hC dX3_setShifted_36 ?_
        refine r_limb hC dX3_setShifted_37 kX3_37 ((wxo fk).lvi _) (by omega) (Nat.le_of_ble_eq_true rfl) (by decide) (Nat.le_refl _) (Nat.le_refl _) ?_
        refine am_iload4 hC dX3_setShifted_40 ?_
        refine am_lshl hC (s % 31) dX3_setShifted_42 rfl (by omega) ?_
        refine am_aload1 hC dX3_setShifted_43 ?_
        refine am_iload6 hC dX3_setShifted_44 ?_
        refine am_iload3 hC dX3_setShifted_46 ?_
        refine am_isub hC dX3_setShifted_47 ?_
        refine am_iconst hC dX3_setShifted_48 ?_
        refine am_isub hC dX3_setShifted_49 ?_
        refine r_limb hC dX3_setShifted_50 kX3_37 ((wxo fk).lvi _) (by omega) (Nat.le_of_ble_eq_true rfl) (by decide) (Nat.le_refl _) (Nat.le_refl _) ?_
        refine am_bipush hC dX3_setShifted_53 rfl ?_
        refine am_iload4 hC dX3_setShifted_55 ?_
        refine am_isub hC dX3_setShifted_57 ?_
        refine am_lshr hC (31 - s % 31) dX3_setShifted_58 (by omega) (by omega) (by omega) ?_
        rw [c1, c2]
        refine am_lor2 hC (s % 31) dX3_setShifted_59 (by omega) ⟨Int.natCast_nonneg _, by rw [← c3]; exact_mod_cast hq⟩ (by rw [← c3, ← Int.natCast_emod, Nat.mul_mod_left]; rfl) ?_
        refine am_lstore7 hC dX3_setShifted_60 rfl ?_
        refine am_aload0 hC dX3_setShifted_62 ?_
        refine am_iload6 hC dX3_setShifted_63 ?_
        refine am_lload7 hC dX3_setShifted_65 ?_
        refine am_ldc2 hC (2147483647) dX3_setShifted_67 cX3_56 rfl ?_
        refine am_land hC 31 2147483648 dX3_setShifted_70 (by decide) rfl rfl ?_
        refine r_setLimb hC dX3_setShifted_71 kX3_49 (wC.up b) hcc (by omega) (Nat.le_of_ble_eq_true rfl) (by decide) (Nat.le_refl _) (Nat.le_refl _) ?_
        rw [am_up_up, Int.toNat_natCast]
        refine am_iinc6 hC dX3_setShifted_74 rfl ?_
        refine am_goto hC 27 dX3_setShifted_77 rfl ?_
        refine ih _ _ _ (by omega) (fun j hj hj2 => ?_)
        by_cases e : j = k
        · subst e; rw [am_fu_at]; omega
        · rw [am_fu_lt e]; exact h1 j (by omega) hj2
  refine am_iload2 hC dX3_setShifted_0 ?_
  refine am_bipush hC dX3_setShifted_1 rfl ?_
  refine am_idiv hC dX3_setShifted_3 (by omega) (by omega) (by omega) ?_
  refine am_istore3 hC dX3_setShifted_4 rfl ?_
  refine am_iload2 hC dX3_setShifted_5 ?_
  refine am_bipush hC dX3_setShifted_6 rfl ?_
  refine am_irem hC dX3_setShifted_8 (by omega) (by omega) (by omega) ?_
  refine am_istore4 hC dX3_setShifted_9 rfl ?_
  refine am_aload1 hC dX3_setShifted_11 ?_
  refine am_getf hC dX3_setShifted_12 fX3_26 h0 rfl ?_
  refine am_iload3 hC dX3_setShifted_15 ?_
  refine am_iadd hC dX3_setShifted_16 ?_
  refine am_iconst hC dX3_setShifted_17 ?_
  refine am_iadd hC dX3_setShifted_18 ?_
  refine am_istore5 hC dX3_setShifted_19 rfl ?_
  refine am_iload5 hC dX3_setShifted_21 ?_
  refine am_iconst hC dX3_setShifted_23 ?_
  refine am_isub hC dX3_setShifted_24 ?_
  refine am_istore6 hC dX3_setShifted_25 rfl ?_
  rw [show h = am_up h (t + 1) (eL c f0) from (am_up_self b.2).symm, show (s : Int).tdiv 31 = ((s / 31 : Nat) : Int) by rw [Int.tdiv_eq_ediv_of_nonneg (by omega)]; omega, show (s : Int).tmod 31 = ((s % 31 : Nat) : Int) by rw [Int.tmod_eq_emod_of_nonneg (by omega)]; omega, show (szn a : Int) + ((s / 31 : Nat) : Int) + 1 = (u : Int) by omega]
  exact loop u f0 _ _ (Nat.le_refl _) (fun j hj hj2 => by omega)
theorem shr_limb (a p i : Nat) (hp : p < 31) : (dg a i / 2 ^ p + dg a (i + 1) * 2 ^ (31 - p)) % 2147483648 = dg (a / 2 ^ p) i := by
  have e2 := two31 p (by omega)
  have e1 := sh_dg a i
  have hpos := Nat.two_pow_pos p
  have h1 : sh (a / 2 ^ p) i = sh a i / 2 ^ p := by rw [sh_pow, sh_pow, Nat.div_div_eq_div_mul, Nat.div_div_eq_div_mul, Nat.mul_comm]
  rw [Nat.add_comm, show dg a (i + 1) = sh a (i + 1) % 2147483648 from rfl, shl_mod]
  unfold dg at e1 ⊢
  rw [h1]
  congr 1
  generalize sh a i % 2147483648 = d at *
  rw [e1, show 2147483648 * sh a (i + 1) + d = d + 2 ^ p * (sh a (i + 1) * 2 ^ (31 - p)) by rw [show 2147483648 * sh a (i + 1) = 2 ^ (31 - p) * 2 ^ p * sh a (i + 1) by rw [← e2], Nat.mul_comm (2 ^ (31 - p)), Nat.mul_assoc, Nat.mul_comm (2 ^ (31 - p)), Nat.add_comm], Nat.add_mul_div_left _ _ hpos, Nat.add_comm]
theorem m_lower (l : Launch) (g : am_G) {h : am_H} {t c n a p : Nat} (w : wR h t c n a) (hp : p < 31) : am_Met l g yX3_lower (am_W1 yX3_lower cX3_lower 5 none) 3 0 0 [.ref t, vI (p : Int)] h (qN fun h1 => wN h1 t c (a / 2 ^ p) ∧ only h h1 [t, t + 1]) := by
  have hn := w.n
  obtain ⟨w1, w2, hcc, f0, b, w5⟩ := w
  have e2 := two31 p (by omega)
  refine am_mk [some (.ref t), some (vI (p : Int)), none, none, none] 3 rfl rfl (by decide +kernel) (fun y hl hg hC hT _ => ?_)
  have loop : ∀ (m k : Nat) (fk : Nat → Int) (y3 y4 : Option Value), k + m = n → (∀ j, j < k → fk j = (dg (a / 2 ^ p) j : Int)) → (∀ j, k ≤ j → fk j = f0 j) → am_W y 2 0 0 (am_up h (t + 1) (eL c fk)) [some (.ref t), some (vI (p : Int)), some (vI (k : Int)), y3, y4] [] := by
    intro m
    induction m with
    | zero =>
      intro k fk y3 y4 hk h1 h2
      have hb := (wC.up (f' := fk) b).1
      refine am_iload2 hC dX3_lower_2 ?_
      refine am_aload0 hC dX3_lower_3 ?_
      refine am_getf hC dX3_lower_4 fX3_26 hb rfl ?_
      refine am_icmp_ge hC 47 dX3_lower_7 rfl (by omega) (by omega) (fun c7 => ?_) (fun c7 => ?_)
      · refine am_aload0 hC dX3_lower_47 ?_
        refine am_aload0 hC dX3_lower_48 ?_
        refine am_getf hC dX3_lower_49 fX3_26 hb rfl ?_
        refine w_set l hC dX3_lower_52 kX3_53 b hcc (by omega) (r := a / 2 ^ p) (by rw [Int.toNat_natCast]; exact Nat.lt_of_le_of_lt (Nat.div_le_self _ _) w1) (fun j hj => h1 j (by omega)) (Nat.le_of_ble_eq_true rfl) (by decide) (Nat.le_refl _) (Nat.le_refl _) (fun h1 w1 o1 => ?_)
        exact am_vret hC hT dX3_lower_55 (Nat.le_refl _) (Nat.le_refl _) ⟨rfl, w1, o1⟩
      · exact absurd c7 (by omega)
    | succ m ih =>
      intro k fk y3 y4 hk h1 h2
      have hb := (wC.up (f' := fk) b).1
      have wn0 : wR h t c n a := ⟨w1, w2, hcc, f0, b, w5⟩
      have l1 := LV.mid (H := am_up h (t + 1) (eL c fk)) wn0 b hcc (am_up_ne _ _ (by omega)) (am_up_at _ _ _) (fun q _ q2 => am_up_ne _ _ q2) h2
      have l2 := LV.mid (H := am_up h (t + 1) (eL c fk)) (k := k + 1) wn0 b hcc (am_up_ne _ _ (by omega)) (am_up_at _ _ _) (fun q _ q2 => am_up_ne _ _ q2) (fun j hj => h2 j (by omega))
      have d1 := dg_lt a k
      have d2 := dg_lt a (k + 1)
      have lm := shr_limb a p k hp
      have hq : dg a k / 2 ^ p < 2 ^ (31 - p) := by rw [Nat.div_lt_iff_lt_mul (Nat.two_pow_pos _), ← e2]; exact d1
      have c1 : ((dg a k : Nat) : Int) / 2 ^ p = ((dg a k / 2 ^ p : Nat) : Int) := by push_cast; rfl
      have c2 : ((dg a (k + 1) : Nat) : Int) * 2 ^ (31 - p) = ((dg a (k + 1) * 2 ^ (31 - p) : Nat) : Int) := by push_cast; rfl
      have c3 : ((2 ^ (31 - p) : Nat) : Int) = 2 ^ (31 - p) := by push_cast; rfl
      refine am_iload2 hC dX3_lower_2 ?_
      refine am_aload0 hC dX3_lower_3 ?_
      refine am_getf hC dX3_lower_4 fX3_26 hb rfl ?_
      refine am_icmp_ge hC 47 dX3_lower_7 rfl (by omega) (by omega) (fun c7 => ?_) (fun c7 => ?_)
      · exact absurd c7 (by omega)
      · refine am_aload0 hC dX3_lower_10 ?_
        refine am_iload2 hC dX3_lower_11 ?_
        refine r_limb hC dX3_lower_12 kX3_37 l1 (by omega) (Nat.le_of_ble_eq_true rfl) (by decide) (Nat.le_refl _) (Nat.le_refl _) ?_
        refine am_iload1 hC dX3_lower_15 ?_
        refine am_lshr hC p dX3_lower_16 (by omega) rfl (by omega) ?_
        refine am_aload0 hC dX3_lower_17 ?_
        refine am_iload2 hC dX3_lower_18 ?_
        refine am_iconst hC dX3_lower_19 ?_
        refine am_iadd hC dX3_lower_20 ?_
        rw [show (k : Int) + 1 = ((k + 1 : Nat) : Int) by omega]
        refine r_limb hC dX3_lower_21 kX3_37 l2 (by omega) (Nat.le_of_ble_eq_true rfl) (by decide) (Nat.le_refl _) (Nat.le_refl _) ?_
        refine am_bipush hC dX3_lower_24 rfl ?_
        refine am_iload1 hC dX3_lower_26 ?_
        refine am_isub hC dX3_lower_27 ?_
        refine am_lshl hC (31 - p) dX3_lower_28 (by omega) (by omega) ?_
        rw [c1, c2]
        refine am_lor hC (31 - p) dX3_lower_29 (by omega) ⟨Int.natCast_nonneg _, by rw [← c3]; exact_mod_cast hq⟩ (by rw [← c3, ← Int.natCast_emod, Nat.mul_mod_left]; rfl) ?_
        refine am_lstore3 hC dX3_lower_30 rfl ?_
        refine am_aload0 hC dX3_lower_31 ?_
        refine am_iload2 hC dX3_lower_32 ?_
        refine am_lload3 hC dX3_lower_33 ?_
        refine am_ldc2 hC (2147483647) dX3_lower_34 cX3_56 rfl ?_
        refine am_land hC 31 2147483648 dX3_lower_37 (by decide) rfl rfl ?_
        refine r_setLimb hC dX3_lower_38 kX3_49 (wC.up b) hcc (by omega) (Nat.le_of_ble_eq_true rfl) (by decide) (Nat.le_refl _) (Nat.le_refl _) ?_
        rw [am_up_up, Int.toNat_natCast]
        refine am_iinc2 hC dX3_lower_41 rfl ?_
        refine am_goto hC 2 dX3_lower_44 rfl ?_
        refine ih (k + 1) _ _ _ (by omega) (fun j hj => ?_) (fun j hj => by rw [am_fu_lt (by omega)]; exact h2 j (by omega))
        by_cases e : j = k
        · subst e; rw [am_fu_at]; omega
        · rw [am_fu_lt e]; exact h1 j (by omega)
  refine am_iconst hC dX3_lower_0 ?_
  refine am_istore2 hC dX3_lower_1 rfl ?_
  rw [show h = am_up h (t + 1) (eL c f0) from (am_up_self b.2).symm]
  exact loop n 0 f0 _ _ (Nat.zero_add _) (fun j hj => by omega) (fun j _ => rfl)

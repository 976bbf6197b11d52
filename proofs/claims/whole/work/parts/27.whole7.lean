theorem tq_turn {d S g Q R : Nat} (hd : 0 < d) (hS : S = d * Q + R) (hR : R < d) (hg : g < 2147483648) : (2147483648 * S + g) / d = 2147483648 * Q + (R * 2147483648 + g) / d ∧ (R * 2147483648 + g) / d < 2147483648 ∧ (2147483648 * S + g) % d = (R * 2147483648 + g) % d := by
  have e : 2147483648 * S + g = (R * 2147483648 + g) + d * (2147483648 * Q) := by
    rw [hS, Nat.mul_add, Nat.mul_left_comm]; omega
  refine ⟨?_, ?_, ?_⟩
  · rw [e, Nat.add_mul_div_left _ _ hd]; omega
  · rw [Nat.div_lt_iff_lt_mul hd]
    have : (R + 1) * 2147483648 ≤ d * 2147483648 := Nat.mul_le_mul_right _ hR
    omega
  · rw [e, Nat.add_mul_mod_self_left]
theorem sh_div (a d i : Nat) : sh (a / d) i = sh a i / d := by
  unfold sh; rw [Nat.div_div_eq_div_mul, Nat.div_div_eq_div_mul, Nat.mul_comm]
theorem m_takeQuotient (l : Launch) (g : am_G) {h : am_H} {t c n a d : Nat} (w : wR h t c n a) (hd : 0 < d) (hd2 : d < 2147483648) : am_Met l g yX3_takeQuotient (am_W1 yX3_takeQuotient cX3_takeQuotient 6 (some .long)) 3 0 0 [.ref t, vL (d : Int)] h (qL fun v h1 => v = ((a % d : Nat) : Int) ∧ wN h1 t c (a / d) ∧ only h h1 [t, t + 1]) := by
  have hn := w.n
  have h0 := w.o
  obtain ⟨w1, w2, hcc, f0, b, w5⟩ := w
  refine am_mk [some (.ref t), some (vL (d : Int)), none, none, none, none] 3 rfl rfl (by decide +kernel) (fun y hl hg hC hT _ => ?_)
  have loop : ∀ (k : Nat) (fk : Nat → Int), k ≤ n → (∀ j, j < k → fk j = f0 j) → (∀ j, k ≤ j → j < n → fk j = (dg (a / d) j : Int)) → am_W y 18 0 0 (am_up h (t + 1) (eL c fk)) [some (.ref t), some (vL (d : Int)), none, some (vL ((sh a k % d : Nat) : Int)), none, some (vI ((k : Int) - 1))] [] := by
    intro k
    induction k with
    | zero =>
      intro fk hk h1 h2
      have hb := (wC.up (f' := fk) b).1
      refine am_iload5 hC dX3_takeQuotient_18 ?_
      refine am_if_lt hC 54 dX3_takeQuotient_20 rfl (by omega) (fun c20 => ?_) (fun c20 => ?_)
      · refine am_aload0 hC dX3_takeQuotient_54 ?_
        refine am_aload0 hC dX3_takeQuotient_55 ?_
        refine am_getf hC dX3_takeQuotient_56 fX3_26 hb rfl ?_
        refine w_set l hC dX3_takeQuotient_59 kX3_53 b hcc (by omega) (r := a / d) (by rw [Int.toNat_natCast]; exact Nat.lt_of_le_of_lt (Nat.div_le_self _ _) w1) (fun j hj => h2 j (by omega) (by omega)) (Nat.le_of_ble_eq_true rfl) (by decide) (Nat.le_refl _) (Nat.le_refl _) (fun h1 w1 o1 => ?_)
        refine am_lload3 hC dX3_takeQuotient_62 ?_
        exact am_lret hC hT dX3_takeQuotient_63 (Nat.le_refl _) (Nat.le_refl _) ⟨_, rfl, by rw [sh_0], w1, o1⟩
      · exact absurd c20 (by omega)
    | succ k ih =>
      intro fk hk h1 h2
      rw [show ((k + 1 : Nat) : Int) - 1 = (k : Int) by omega]
      have d1 := dg_lt a k
      have e1 := sh_dg a k
      have hR : sh a (k + 1) % d < d := Nat.mod_lt _ hd
      have tt := tq_turn hd (Nat.div_add_mod (sh a (k + 1)) d).symm hR d1
      rw [← e1] at tt
      have hl : LV (am_up h (t + 1) (eL c fk)) t (k : Int) (dg a k : Int) := ⟨_, c, fk, wC.up b, by omega, hcc, by rw [if_pos (by omega), Int.toNat_natCast, h1 k (by omega)]; exact w5 k (by omega)⟩
      have hdd : ((sh a (k + 1) % d : Nat) : Int) * 2 ^ 31 + (dg a k : Int) = ((sh a (k + 1) % d * 2147483648 + dg a k : Nat) : Int) := by omega
      have hlt : sh a (k + 1) % d * 2147483648 + dg a k < 2147483648 * 2147483648 := by omega
      have q3 : (sh a (k + 1) % d * 2147483648 + dg a k) / d = dg (a / d) k := by
        show _ = sh (a / d) k % 2147483648
        rw [sh_div, tt.1, Nat.mul_add_mod, Nat.mod_eq_of_lt tt.2.1]
      have q1 : (((sh a (k + 1) % d * 2147483648 + dg a k : Nat) : Int)).tdiv (d : Int) = (((sh a (k + 1) % d * 2147483648 + dg a k) / d : Nat) : Int) := by rw [Int.tdiv_eq_ediv_of_nonneg (by omega)]; exact (Int.natCast_ediv _ _).symm
      have q2 : (((sh a (k + 1) % d * 2147483648 + dg a k : Nat) : Int)).tmod (d : Int) = ((sh a k % d : Nat) : Int) := by rw [Int.tmod_eq_emod_of_nonneg (by omega), tt.2.2]; exact (Int.natCast_emod _ _).symm
      refine am_iload5 hC dX3_takeQuotient_18 ?_
      refine am_if_lt hC 54 dX3_takeQuotient_20 rfl (by omega) (fun c20 => ?_) (fun c20 => ?_)
      · exact absurd c20 (by omega)
      · refine am_lload3 hC dX3_takeQuotient_23 ?_
        refine am_bipush hC dX3_takeQuotient_24 rfl ?_
        refine am_lshl hC 31 dX3_takeQuotient_26 rfl (by decide) ?_
        refine am_aload0 hC dX3_takeQuotient_27 ?_
        refine am_iload5 hC dX3_takeQuotient_28 ?_
        refine r_limb hC dX3_takeQuotient_30 kX3_37 hl (by omega) (Nat.le_of_ble_eq_true rfl) (by decide) (Nat.le_refl _) (Nat.le_refl _) ?_
        refine am_lor2 hC 31 dX3_takeQuotient_33 (by decide) (by omega) (by omega) ?_
        rw [hdd]
        refine am_lstore3 hC dX3_takeQuotient_34 rfl ?_
        refine am_aload0 hC dX3_takeQuotient_35 ?_
        refine am_iload5 hC dX3_takeQuotient_36 ?_
        refine am_lload3 hC dX3_takeQuotient_38 ?_
        refine am_lload1 hC dX3_takeQuotient_39 ?_
        refine am_ldiv hC dX3_takeQuotient_40 (by omega) (by omega) (by omega) ?_
        rw [q1, q3]
        refine r_setLimb hC dX3_takeQuotient_41 kX3_49 (wC.up b) hcc (by omega) (Nat.le_of_ble_eq_true rfl) (by decide) (Nat.le_refl _) (Nat.le_refl _) ?_
        rw [am_up_up, Int.toNat_natCast]
        refine am_lload3 hC dX3_takeQuotient_44 ?_
        refine am_lload1 hC dX3_takeQuotient_45 ?_
        refine am_lrem hC dX3_takeQuotient_46 (by omega) (by omega) (by omega) ?_
        rw [q2]
        refine am_lstore3 hC dX3_takeQuotient_47 rfl ?_
        refine am_iinc5 hC dX3_takeQuotient_48 rfl ?_
        refine am_goto hC 18 dX3_takeQuotient_51 rfl ?_
        refine ih _ (by omega) (fun j hj => by rw [am_fu_lt (by omega)]; exact h1 j (by omega)) (fun j hj hj2 => ?_)
        by_cases e : j = k
        · subst e; rw [am_fu_at]
        · rw [am_fu_lt e]; exact h2 j (by omega) hj2
  refine am_lload1 hC dX3_takeQuotient_0 ?_
  refine am_lconst0 hC dX3_takeQuotient_1 ?_
  refine am_lif_gt hC 8 dX3_takeQuotient_2 dX3_takeQuotient_3 rfl (by omega) (by omega) (fun c3 => ?_) (fun c3 => ?_)
  · refine am_lconst0 hC dX3_takeQuotient_8 ?_
    refine am_lstore3 hC dX3_takeQuotient_9 rfl ?_
    refine am_aload0 hC dX3_takeQuotient_10 ?_
    refine am_getf hC dX3_takeQuotient_11 fX3_26 h0 rfl ?_
    refine am_iconst hC dX3_takeQuotient_14 ?_
    refine am_isub hC dX3_takeQuotient_15 ?_
    refine am_istore5 hC dX3_takeQuotient_16 rfl ?_
    rw [show h = am_up h (t + 1) (eL c f0) from (am_up_self b.2).symm]
    have L := loop n f0 (Nat.le_refl _) (fun j _ => rfl) (fun j hj hj2 => by omega)
    rw [sh_out (szn_le.mpr w1), Nat.zero_mod] at L
    exact L
  · exact absurd (by omega) c3
theorem win_eq (a s : Nat) : (dg a (s / 31) / 2 ^ (s % 31) + dg a (s / 31 + 1) * 2 ^ (31 - s % 31) + dg a (s / 31 + 2) * 2 ^ (62 - s % 31)) % 2 ^ 62 = a / 2 ^ s % 2 ^ 62 := by
  have hp : s % 31 < 31 := Nat.mod_lt _ (by decide)
  generalize hpp : s % 31 = p at *
  generalize hm : s / 31 = m
  have e0 : a / 2 ^ s = sh a m / 2 ^ p := by
    rw [sh_pow, Nat.div_div_eq_div_mul, ← Nat.pow_add]; congr 2; omega
  have e1 := sh_dg a m
  have e2 := sh_dg a (m + 1)
  have e3 := sh_dg a (m + 2)
  rw [show m + 1 + 1 = m + 2 by omega] at e2
  have t1 := two31 p (by omega)
  have hpos := Nat.two_pow_pos p
  have t2 : (2 : Nat) ^ (62 - p) = 2 ^ (31 - p) * 2147483648 := by rw [show (2147483648 : Nat) = 2 ^ 31 from rfl, ← Nat.pow_add]; congr 1; omega
  have e4 : sh a m = dg a m + 2 ^ p * (dg a (m + 1) * 2 ^ (31 - p) + sh a (m + 2) * 2 ^ (62 - p)) := by
    rw [e1, e2, t2, Nat.mul_add (2 ^ p), Nat.mul_left_comm (2 ^ p), Nat.mul_comm (2 ^ p) (2 ^ (31 - p)), ← t1, Nat.mul_left_comm (2 ^ p), ← Nat.mul_assoc (2 ^ p), Nat.mul_comm (2 ^ p) (2 ^ (31 - p)), ← t1]
    omega
  rw [e0, e4, Nat.add_mul_div_left _ _ hpos]
  have e5 : sh a (m + 2) * 2 ^ (62 - p) = dg a (m + 2) * 2 ^ (62 - p) + 2 ^ 62 * (sh a (m + 3) * 2 ^ (31 - p)) := by
    rw [e3, Nat.add_mul, Nat.add_comm, t2]
    congr 1
    rw [show (2 : Nat) ^ 62 = 2147483648 * 2147483648 from rfl]
    simp only [Nat.mul_assoc, Nat.mul_comm, Nat.mul_left_comm]
  rw [e5, ← Nat.add_assoc, ← Nat.add_assoc, Nat.add_mul_mod_self_left]
theorem m_window (l : Launch) (g : am_G) {h : am_H} {i c n a s : Nat} (w : wR h i c n a) (hs : s ≤ 100000) : am_Met l g yX3_window (am_W1 yX3_window cX3_window 6 (some .long)) 2 0 0 [.ref i, vI (s : Int)] h (pL ((a / 2 ^ s % 2 ^ 62 : Nat) : Int) h) := by
  have hp : s % 31 < 31 := Nat.mod_lt _ (by decide)
  have we := win_eq a s
  have d1 := dg_lt a (s / 31)
  have d2 := dg_lt a (s / 31 + 1)
  have d3 := dg_lt a (s / 31 + 2)
  have e2 := two31 (s % 31) (by omega)
  have hq : dg a (s / 31) / 2 ^ (s % 31) < 2 ^ (31 - s % 31) := by rw [Nat.div_lt_iff_lt_mul (Nat.two_pow_pos _), ← e2]; exact d1
  have t2 : (2 : Nat) ^ (62 - s % 31) = 2 ^ (31 - s % 31) * 2147483648 := by rw [show (2147483648 : Nat) = 2 ^ 31 from rfl, ← Nat.pow_add]; congr 1; omega
  have hq2 : dg a (s / 31) / 2 ^ (s % 31) + dg a (s / 31 + 1) * 2 ^ (31 - s % 31) < 2 ^ (62 - s % 31) := by
    rw [t2]
    have h3 : (dg a (s / 31 + 1) + 1) * 2 ^ (31 - s % 31) ≤ 2147483648 * 2 ^ (31 - s % 31) := Nat.mul_le_mul_right _ d2
    rw [Nat.add_mul, Nat.one_mul] at h3
    rw [Nat.mul_comm (2 ^ (31 - s % 31)) 2147483648]
    omega
  have c1 : ((dg a (s / 31) : Nat) : Int) / 2 ^ (s % 31) = ((dg a (s / 31) / 2 ^ (s % 31) : Nat) : Int) := by push_cast; rfl
  have c2 : ((dg a (s / 31 + 1) : Nat) : Int) * 2 ^ (31 - s % 31) = ((dg a (s / 31 + 1) * 2 ^ (31 - s % 31) : Nat) : Int) := by push_cast; rfl
  have c3 : ((2 ^ (31 - s % 31) : Nat) : Int) = 2 ^ (31 - s % 31) := by push_cast; rfl
  have c4 : ((dg a (s / 31 + 2) : Nat) : Int) * 2 ^ (62 - s % 31) = ((dg a (s / 31 + 2) * 2 ^ (62 - s % 31) : Nat) : Int) := by push_cast; rfl
  have c5 : ((2 ^ (62 - s % 31) : Nat) : Int) = 2 ^ (62 - s % 31) := by push_cast; rfl
  refine am_mk [some (.ref i), some (vI (s : Int)), none, none, none, none] 4 rfl rfl (by decide +kernel) (fun x hl hg hC hT _ => ?_)
  refine am_iload1 hC dX3_window_0 ?_
  refine am_bipush hC dX3_window_1 rfl ?_
  refine am_idiv hC dX3_window_3 (by omega) (by omega) (by omega) ?_
  rw [show (s : Int).tdiv 31 = ((s / 31 : Nat) : Int) by rw [Int.tdiv_eq_ediv_of_nonneg (by omega)]; omega]
  refine am_istore2 hC dX3_window_4 rfl ?_
  refine am_iload1 hC dX3_window_5 ?_
  refine am_bipush hC dX3_window_6 rfl ?_
  refine am_irem hC dX3_window_8 (by omega) (by omega) (by omega) ?_
  rw [show (s : Int).tmod 31 = ((s % 31 : Nat) : Int) by rw [Int.tmod_eq_emod_of_nonneg (by omega)]; omega]
  refine am_istore3 hC dX3_window_9 rfl ?_
  refine am_aload0 hC dX3_window_10 ?_
  refine am_iload2 hC dX3_window_11 ?_
  refine r_limb hC dX3_window_12 kX3_37 (w.lv _) (by omega) (Nat.le_of_ble_eq_true rfl) (by decide) (Nat.le_refl _) (Nat.le_refl _) ?_
  refine am_iload3 hC dX3_window_15 ?_
  refine am_lshr hC (s % 31) dX3_window_16 (by omega) rfl (by omega) ?_
  refine am_aload0 hC dX3_window_17 ?_
  refine am_iload2 hC dX3_window_18 ?_
  refine am_iconst hC dX3_window_19 ?_
  refine am_iadd hC dX3_window_20 ?_
  rw [show ((s / 31 : Nat) : Int) + 1 = ((s / 31 + 1 : Nat) : Int) by omega]
  refine r_limb hC dX3_window_21 kX3_37 (w.lv _) (by omega) (Nat.le_of_ble_eq_true rfl) (by decide) (Nat.le_refl _) (Nat.le_refl _) ?_
  refine am_bipush hC dX3_window_24 rfl ?_
  refine am_iload3 hC dX3_window_26 ?_
  refine am_isub hC dX3_window_27 ?_
  refine am_lshl hC (31 - s % 31) dX3_window_28 (by omega) (by omega) ?_
  rw [c1, c2]
  refine am_lor hC (31 - s % 31) dX3_window_29 (by omega) ⟨Int.natCast_nonneg _, by rw [← c3]; exact_mod_cast hq⟩ (by rw [← c3, ← Int.natCast_emod, Nat.mul_mod_left]; rfl) ?_
  refine am_aload0 hC dX3_window_30 ?_
  refine am_iload2 hC dX3_window_31 ?_
  refine am_iconst hC dX3_window_32 ?_
  refine am_iadd hC dX3_window_33 ?_
  rw [show ((s / 31 : Nat) : Int) + 2 = ((s / 31 + 2 : Nat) : Int) by omega]
  refine r_limb hC dX3_window_34 kX3_37 (w.lv _) (by omega) (Nat.le_of_ble_eq_true rfl) (by decide) (Nat.le_refl _) (Nat.le_refl _) ?_
  refine am_bipush hC dX3_window_37 rfl ?_
  refine am_iload3 hC dX3_window_39 ?_
  refine am_isub hC dX3_window_40 ?_
  refine am_lshl hC (62 - s % 31) dX3_window_41 (by omega) (by omega) ?_
  rw [c4, ← Int.natCast_add]
  refine am_lor hC (62 - s % 31) dX3_window_42 (by omega) ⟨Int.natCast_nonneg _, by rw [← c5]; exact_mod_cast hq2⟩ (by rw [← c5, ← Int.natCast_emod, Nat.mul_mod_left]; rfl) ?_
  rw [← Int.natCast_add]
  refine am_lstore4 hC dX3_window_43 rfl ?_
  refine am_lload4 hC dX3_window_45 ?_
  refine am_ldc2 hC (4611686018427387903) dX3_window_47 cX3_47 rfl ?_
  refine am_land hC 62 4611686018427387904 dX3_window_50 (by decide) rfl rfl ?_
  exact am_lret hC hT dX3_window_51 (Nat.le_refl _) (Nat.le_refl _) ⟨sL (by omega), rfl⟩
/-! making Wholes and Fractions -/
theorem nf3 : ∀ (b j : Nat), j < 2 → defaultValue (tyX3 j) = vp_V ([Value.null, vI 0].map (am_c b)) j := fun b j hj => by
  rcases (show j = 0 ∨ j = 1 by omega) with rfl | rfl <;> rfl
theorem am_push_at (h : am_H) (e : am_E) : (am_push h e).2 h.1 = some e := by simp [am_push]
theorem am_push_ne (h : am_H) {i : Nat} (e : am_E) (q : i ≠ h.1) : (am_push h e).2 i = h.2 i := by simp [am_push, q]
theorem m_Winit (l : Launch) (g : am_G) {h : am_H} {i room : Nat} (h0 : h.2 i = some (eO 3 [.null, vI 0])) (hi : i < h.1) (hr : room ≤ 100000) : am_Met l g yX3_init (am_W1 yX3_init cX3_init 2 none) 2 1 room [.ref i, vI (room : Int)] h (qN fun h1 => h1 = am_up (am_push h (eL room (fun _ => 0))) i (eO 3 [.ref h.1, vI 0])) := by
  have h0' : (am_push h (eL room (fun _ => 0))).2 i = some (eO 3 [.null, vI 0]) := by rw [am_push_ne _ _ (by omega)]; exact h0
  refine am_mk [some (.ref i), some (vI (room : Int))] 0 rfl rfl (by decide +kernel) (fun x hl hg hC hT hin => ?_)
  refine am_aload0 hC dX3_init_0 ?_
  refine am_objInit hC dX3_init_1 oX3_3 (by decide) (by decide) ?_
  refine am_aload0 hC dX3_init_4 ?_
  refine am_iload1 hC dX3_init_5 ?_
  refine am_iconst hC dX3_init_6 ?_
  refine am_S2_pI hC dX3_init_7 kX3_9 (m_max _ _ _ (by omega) (by omega)) (Nat.le_of_ble_eq_true rfl) (by decide) (Nat.zero_le _) (Nat.zero_le _) ?_
  rw [show max (room : Int) 0 = (room : Int) by omega]
  refine am_newL hC room dX3_init_10 rfl hr (by omega) (by omega) ?_
  refine am_putf hC dX3_init_12 pX3_15 (fun _ => hin rfl) h0' (am_fitA _ _) (Nat.le_of_ble_eq_true rfl) ?_
  exact am_vret hC hT dX3_init_15 (by omega) (by omega) ⟨rfl, rfl⟩
/-- k cells were made, the old ones stay -/
def grown (h h1 : am_H) (k : Nat) : Prop := h1.1 = h.1 + k ∧ ∀ q, q < h.1 → h1.2 q = h.2 q
theorem wR.gr {h h1 : am_H} {i c n a : Nat} (w : wR h i c n a) (o : ∀ q, q < h.1 → h1.2 q = h.2 q) (q2 : i + 1 < h.1) : wR h1 i c n a := by
  obtain ⟨h1, h2, h3, f, h4, h5⟩ := w
  exact ⟨h1, h2, h3, f, ⟨by rw [o _ (by omega)]; exact h4.1, by rw [o _ q2]; exact h4.2⟩, h5⟩
theorem m_copyOf (l : Launch) (g : am_G) {h : am_H} {o cx a M : Nat} (w : wN h o cx a) (hM : szn a ≤ M) : am_Met l g yX3_copyOf (am_W1 yX3_copyOf cX3_copyOf 2 (some (.object "KerfFractions$Whole"))) 4 2 (2 + M) [.ref o] h (qA fun i h3 => i = h.1 ∧ grown h h3 2 ∧ wN h3 h.1 (szn a) a) := by
  have h0 := w.o
  have hn := w.n
  refine am_mk [some (.ref o), none] 1 rfl rfl (by decide +kernel) (fun x hl hg hC hT _ => ?_)
  refine am_okI (fun ok => ?_)
  have ho : o + 1 < h.1 := ok _ _ w.2.2.2.choose_spec.1.2
  obtain ⟨h1, e1⟩ : ∃ h1, h1 = am_push h (eO 3 [.null, vI 0]) := ⟨_, rfl⟩
  have h0' : h1.2 o = some (eO 3 [.ref (o + 1), vI (szn a : Int)]) := by subst e1; rw [am_push_ne _ _ (by omega)]; exact h0
  have h01 : h1.2 h.1 = some (eO 3 [.null, vI 0]) := by subst e1; exact am_push_at _ _
  have s1 : h1.1 = h.1 + 1 := by subst e1; rfl
  obtain ⟨h2, e2⟩ : ∃ h2, h2 = am_up (am_push h1 (eL (szn a) (fun _ => 0))) h.1 (eO 3 [.ref h1.1, vI 0]) := ⟨_, rfl⟩
  have s2 : h2.1 = h.1 + 2 := by subst e2; show h1.1 + 1 = _; omega
  have g2 : ∀ q, q < h.1 → h2.2 q = h.2 q := by
    intro q hq
    subst e2
    rw [am_up_ne _ _ (by omega), am_push_ne _ _ (by omega)]
    subst e1
    rw [am_push_ne _ _ (by omega)]
  have wt : wC h2 h.1 (szn a) := by
    refine ⟨hn, 0, fun _ => 0, ?_, ?_⟩
    · subst e2; rw [am_up_at, s1]
    · subst e2; rw [am_up_ne _ _ (by omega), ← s1]; exact am_push_at _ _
  have w2 : wN h2 o cx a := w.gr g2 ho
  obtain ⟨n2, ho2⟩ := wt.o
  refine am_new hC (ci := 3) (RX3, TX3, 2) tyX3 [.null, vI 0] dX3_copyOf_0 rfl tyX3_ok nf3 nX3_1.1 nX3_1.2.1 nX3_1.2.2 (by omega) (by show _ + 2 ≤ _; omega) ?_
  rw [← e1]
  show am_W x _ (0 + 1) (0 + 2) _ _ _
  refine am_dup hC dX3_copyOf_3 rfl ?_
  refine am_aload0 hC dX3_copyOf_4 ?_
  refine am_getf hC dX3_copyOf_5 fX3_26 h0' rfl ?_
  refine am_I1_qN hC dX3_copyOf_8 kX3_19 (m_Winit _ _ h01 (by omega) hn) (Nat.le_of_ble_eq_true rfl) (by decide) (by omega) (by omega) (fun h2' q => ?_)
  rw [← e2] at q
  subst q
  refine am_astore1 hC dX3_copyOf_11 rfl ?_
  refine am_aload1 hC dX3_copyOf_12 ?_
  refine am_aload0 hC dX3_copyOf_13 ?_
  refine am_V1_qN hC 3 dX3_copyOf_14 kX3_30 (m_become _ _ wt w2 (Nat.le_refl _)) ho2 rfl (Nat.le_of_ble_eq_true rfl) (by decide) (by omega) (by omega) (fun h3 q => ?_)
  refine am_aload1 hC dX3_copyOf_17 ?_
  exact am_aret hC hT dX3_copyOf_18 (by omega) (by omega) ⟨_, rfl, rfl, ⟨by rw [q.2.1, s2], fun r hr => by rw [q.2.2 r (by simp; omega)]; exact g2 r hr⟩, q.1⟩

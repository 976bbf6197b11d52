/-! copy, plus, minus, twice, half, isEven -/
theorem m_Mcopy (l : Launch) (g : am_G) {h : am_H} {wd x y a : Nat} {R : Nat → Int} (w : rX h wd R) (hx : x < 12) (hy : y < 12) (q : rg R y a) :
    am_Met l g yX5_copy (am_W1 yX5_copy cX5_copy 4 none) 1 0 0 [.ref 43, vI (x : Int), vI (y : Int)] h (qN fun h1 => ∃ R', h1 = am_up h 44 (eI 1920 R') ∧ rg R' x a ∧ rK R R' x) := by
  obtain ⟨⟨th, us, ro, to, h0⟩, h1, w1, w2⟩ := w
  refine am_mk [some (.ref 43), some (vI (x : Int)), some (vI (y : Int)), none] 1 rfl rfl (by decide +kernel) (fun z hl hg hC hT _ => ?_)
  have loop : ∀ (m k : Nat) (R' : Nat → Int), k + m = 160 → rK R R' x → (∀ j, j < k → R' (160 * x + j) = (pg a j : Int)) → (∀ j, k ≤ j → j < 160 → R' (160 * y + j) = (pg a j : Int)) → am_W z 2 0 0 (am_up h 44 (eI 1920 R')) [some (.ref 43), some (vI (x : Int)), some (vI (y : Int)), some (vI (k : Int))] [] := by
    intro m
    induction m with
    | zero =>
      intro k R' hk o hf hy2
      refine am_iload3 hC dX5_copy_2 ?_
      refine am_sipush hC dX5_copy_3 rfl ?_
      refine am_icmp_ge hC 39 dX5_copy_6 rfl (by omega) (by omega) (fun c6 => ?_) (fun c6 => ?_)
      · exact am_vret hC hT dX5_copy_39 (by omega) (by omega) ⟨rfl, R', rfl, fun j hj => hf j (by omega), o⟩
      · exact absurd c6 (by omega)
    | succ m ih =>
      intro k R' hk o hf hy2
      have g0 : (am_up h 44 (eI 1920 R')).2 43 = _ := (am_up_ne h (eI 1920 R') (show 43 ≠ 44 by decide)).trans h0
      have g1 := am_up_at h 44 (eI 1920 R')
      refine am_iload3 hC dX5_copy_2 ?_
      refine am_sipush hC dX5_copy_3 rfl ?_
      refine am_icmp_ge hC 39 dX5_copy_6 rfl (by omega) (by omega) (fun c6 => ?_) (fun c6 => ?_)
      · exact absurd c6 (by omega)
      · refine am_aload0 hC dX5_copy_9 ?_
        refine am_getf hC dX5_copy_10 fX5_13 g0 rfl ?_
        refine am_sipush hC dX5_copy_13 rfl ?_
        refine am_iload1 hC dX5_copy_16 ?_
        refine am_imul hC dX5_copy_17 ?_
        refine am_iload3 hC dX5_copy_18 ?_
        refine am_iadd hC dX5_copy_19 ?_
        refine am_aload0 hC dX5_copy_20 ?_
        refine am_getf hC dX5_copy_21 fX5_13 g0 rfl ?_
        refine am_sipush hC dX5_copy_24 rfl ?_
        refine am_iload2 hC dX5_copy_27 ?_
        refine am_imul hC dX5_copy_28 ?_
        refine am_iload3 hC dX5_copy_29 ?_
        refine am_iadd hC dX5_copy_30 ?_
        refine am_iald hC dX5_copy_31 g1 (by omega) (by omega) ?_
        rw [show (160 * (x : Int) + (k : Int)) = ((160 * x + k : Nat) : Int) by omega, show (160 * (y : Int) + (k : Int)) = ((160 * y + k : Nat) : Int) by omega]
        refine am_iast hC dX5_copy_32 g1 (by omega) (by omega) ?_
        rw [Int.toNat_natCast, Int.toNat_natCast, am_up_up, hy2 k (Nat.le_refl _) (by omega)]
        refine am_iinc3 hC dX5_copy_33 rfl ?_
        refine am_goto hC 2 dX5_copy_36 rfl ?_
        rw [show (k : Int) + 1 = ((k + 1 : Nat) : Int) by omega]
        refine ih (k + 1) _ (by omega) (o.fu (by omega)) (fun j hj => ?_) (fun j hj hj2 => ?_)
        · by_cases e : j = k
          · subst e; rw [am_fu_at]
          · rw [am_fu_lt (by omega)]; exact hf j (by omega)
        · rw [am_fu_lt (by omega)]; exact hy2 j (by omega) hj2
  refine am_iconst hC dX5_copy_0 ?_
  refine am_istore3 hC dX5_copy_1 rfl ?_
  have := loop 160 0 R rfl (rK.rf _ _) (fun j hj => by omega) (fun j _ hj => q j hj)
  rw [am_up_self h1] at this
  exact this
theorem m_Mplus (l : Launch) (g : am_G) {h : am_H} {wd x y a b : Nat} {R : Nat → Int} (w : rX h wd R) (hx : x < 12) (hy : y < 12) (hxy : y ≠ x) (p : rg R x a) (q : rg R y b) (hab : a + b < 32768 ^ wd) :
    am_Met l g yX5_plus (am_W1 yX5_plus cX5_plus 6 none) 1 0 0 [.ref 43, vI (x : Int), vI (y : Int)] h (qN fun h1 => ∃ R', h1 = am_up h 44 (eI 1920 R') ∧ rg R' x (a + b) ∧ rK R R' x) := by
  obtain ⟨⟨th, us, ro, to, h0⟩, h1, w1, w2⟩ := w
  have la : a < 32768 ^ wd := by omega
  refine am_mk [some (.ref 43), some (vI (x : Int)), some (vI (y : Int)), none, none, none] 3 rfl rfl (by decide +kernel) (fun z hl hg hC hT _ => ?_)
  have loop : ∀ (m k : Nat) (R' : Nat → Int) (cy : Int) (y5 : Option Value), k + m = wd → rK R R' x → (∀ j, j < k → R' (160 * x + j) = (pg (a + b) j : Int)) → (∀ j, k ≤ j → j < 160 → R' (160 * x + j) = (pg a j : Int)) → cy = (hp (a + b) k : Int) - hp a k - hp b k → 0 ≤ cy ∧ cy ≤ 1 → am_W z 5 0 0 (am_up h 44 (eI 1920 R')) [some (.ref 43), some (vI (x : Int)), some (vI (y : Int)), some (vI cy), some (vI (k : Int)), y5] [] := by
    intro m
    induction m with
    | zero =>
      intro k R' cy y5 hk o hf hf2 hc hc2
      have g0 : (am_up h 44 (eI 1920 R')).2 43 = _ := (am_up_ne h (eI 1920 R') (show 43 ≠ 44 by decide)).trans h0
      refine am_iload4 hC dX5_plus_5 ?_
      refine am_aload0 hC dX5_plus_7 ?_
      refine am_getf hC dX5_plus_8 fX5_9 g0 rfl ?_
      refine am_icmp_ge hC 76 dX5_plus_11 rfl (by omega) (by omega) (fun c11 => ?_) (fun c11 => ?_)
      · exact am_vret hC hT dX5_plus_76 (by omega) (by omega) ⟨rfl, R', rfl, fun j hj => by by_cases e : j < k; (· exact hf j e); (· rw [hf2 j (by omega) hj, pg_out la (by omega), pg_out hab (by omega)]), o⟩
      · exact absurd c11 (by omega)
    | succ m ih =>
      intro k R' cy y5 hk o hf hf2 hc hc2
      have g0 : (am_up h 44 (eI 1920 R')).2 43 = _ := (am_up_ne h (eI 1920 R') (show 43 ≠ 44 by decide)).trans h0
      have g1 := am_up_at h 44 (eI 1920 R')
      have e1 := hp_pg (a + b) k
      have e2 := hp_pg a k
      have e3 := hp_pg b k
      have l1 := pg_lt (a + b) k
      have l2 := pg_lt a k
      have l3 := pg_lt b k
      have vx := hf2 k (Nat.le_refl _) (by omega)
      have vy : R' (160 * y + k) = (pg b k : Int) := by rw [o _ (by omega)]; exact q k (by omega)
      refine am_iload4 hC dX5_plus_5 ?_
      refine am_aload0 hC dX5_plus_7 ?_
      refine am_getf hC dX5_plus_8 fX5_9 g0 rfl ?_
      refine am_icmp_ge hC 76 dX5_plus_11 rfl (by omega) (by omega) (fun c11 => ?_) (fun c11 => ?_)
      · exact absurd c11 (by omega)
      · refine am_aload0 hC dX5_plus_14 ?_
        refine am_getf hC dX5_plus_15 fX5_13 g0 rfl ?_
        refine am_sipush hC dX5_plus_18 rfl ?_
        refine am_iload1 hC dX5_plus_21 ?_
        refine am_imul hC dX5_plus_22 ?_
        refine am_iload4 hC dX5_plus_23 ?_
        refine am_iadd hC dX5_plus_25 ?_
        refine am_iald hC dX5_plus_26 g1 (by omega) (by omega) ?_
        refine am_aload0 hC dX5_plus_27 ?_
        refine am_getf hC dX5_plus_28 fX5_13 g0 rfl ?_
        refine am_sipush hC dX5_plus_31 rfl ?_
        refine am_iload2 hC dX5_plus_34 ?_
        refine am_imul hC dX5_plus_35 ?_
        refine am_iload4 hC dX5_plus_36 ?_
        refine am_iadd hC dX5_plus_38 ?_
        refine am_iald hC dX5_plus_39 g1 (by omega) (by omega) ?_
        rw [show (160 * (x : Int) + (k : Int)) = ((160 * x + k : Nat) : Int) by omega, show (160 * (y : Int) + (k : Int)) = ((160 * y + k : Nat) : Int) by omega, Int.toNat_natCast, Int.toNat_natCast, vx, vy]
        refine am_iadd hC dX5_plus_40 ?_
        refine am_iload3 hC dX5_plus_41 ?_
        refine am_iadd hC dX5_plus_42 ?_
        refine am_istore5 hC dX5_plus_43 rfl ?_
        refine am_aload0 hC dX5_plus_45 ?_
        refine am_getf hC dX5_plus_46 fX5_13 g0 rfl ?_
        refine am_sipush hC dX5_plus_49 rfl ?_
        refine am_iload1 hC dX5_plus_52 ?_
        refine am_imul hC dX5_plus_53 ?_
        refine am_iload4 hC dX5_plus_54 ?_
        refine am_iadd hC dX5_plus_56 ?_
        refine am_iload5 hC dX5_plus_57 ?_
        refine am_sipush hC dX5_plus_59 rfl ?_
        refine am_iand hC 15 32768 dX5_plus_62 (by decide) rfl rfl ?_
        rw [show (160 * (x : Int) + (k : Int)) = ((160 * x + k : Nat) : Int) by omega]
        refine am_iast hC dX5_plus_63 g1 (by omega) (by omega) ?_
        rw [Int.toNat_natCast, am_up_up]
        refine am_iload5 hC dX5_plus_64 ?_
        refine am_bipush hC dX5_plus_66 rfl ?_
        refine am_ishr hC 15 dX5_plus_68 (by omega) rfl (by decide) ?_
        refine am_istore3 hC dX5_plus_69 rfl ?_
        refine am_iinc4 hC dX5_plus_70 rfl ?_
        refine am_goto hC 5 dX5_plus_73 rfl ?_
        rw [show (k : Int) + 1 = ((k + 1 : Nat) : Int) by omega]
        refine ih (k + 1) _ _ _ (by omega) (o.fu (by omega)) (fun j hj => ?_) (fun j hj hj2 => ?_) (by omega) (by omega)
        · by_cases e : j = k
          · subst e; rw [am_fu_at]; omega
          · rw [am_fu_lt (by omega)]; exact hf j (by omega)
        · rw [am_fu_lt (by omega)]; exact hf2 j (by omega) hj2
  refine am_iconst hC dX5_plus_0 ?_
  refine am_istore3 hC dX5_plus_1 rfl ?_
  refine am_iconst hC dX5_plus_2 ?_
  refine am_istore4 hC dX5_plus_3 rfl ?_
  have := loop wd 0 R 0 none (Nat.zero_add _) (rK.rf _ _) (fun j hj => by omega) (fun j _ hj => p j hj) (by rw [hp_0, hp_0, hp_0]; omega) (by omega)
  rw [am_up_self h1] at this
  exact this
theorem m_Mminus (l : Launch) (g : am_G) {h : am_H} {wd x y a b : Nat} {R : Nat → Int} (w : rX h wd R) (hx : x < 12) (hy : y < 12) (hxy : y ≠ x) (p : rg R x a) (q : rg R y b) (hab : b ≤ a) (la : a < 32768 ^ wd) :
    am_Met l g yX5_minus (am_W1 yX5_minus cX5_minus 6 none) 1 0 0 [.ref 43, vI (x : Int), vI (y : Int)] h (qN fun h1 => ∃ R', h1 = am_up h 44 (eI 1920 R') ∧ rg R' x (a - b) ∧ rK R R' x) := by
  obtain ⟨⟨th, us, ro, to, h0⟩, h1, w1, w2⟩ := w
  have lab : a - b < 32768 ^ wd := by omega
  refine am_mk [some (.ref 43), some (vI (x : Int)), some (vI (y : Int)), none, none, none] 3 rfl rfl (by decide +kernel) (fun z hl hg hC hT _ => ?_)
  have loop : ∀ (m k : Nat) (R' : Nat → Int) (cy : Int) (y5 : Option Value), k + m = wd → rK R R' x → (∀ j, j < k → R' (160 * x + j) = (pg (a - b) j : Int)) → (∀ j, k ≤ j → j < 160 → R' (160 * x + j) = (pg a j : Int)) → cy = (hp (a - b) k : Int) - hp a k + hp b k → -1 ≤ cy ∧ cy ≤ 0 → am_W z 5 0 0 (am_up h 44 (eI 1920 R')) [some (.ref 43), some (vI (x : Int)), some (vI (y : Int)), some (vI cy), some (vI (k : Int)), y5] [] := by
    intro m
    induction m with
    | zero =>
      intro k R' cy y5 hk o hf hf2 hc hc2
      have g0 : (am_up h 44 (eI 1920 R')).2 43 = _ := (am_up_ne h (eI 1920 R') (show 43 ≠ 44 by decide)).trans h0
      refine am_iload4 hC dX5_minus_5 ?_
      refine am_aload0 hC dX5_minus_7 ?_
      refine am_getf hC dX5_minus_8 fX5_9 g0 rfl ?_
      refine am_icmp_ge hC 76 dX5_minus_11 rfl (by omega) (by omega) (fun c11 => ?_) (fun c11 => ?_)
      · exact am_vret hC hT dX5_minus_76 (by omega) (by omega) ⟨rfl, R', rfl, fun j hj => by by_cases e : j < k; (· exact hf j e); (· rw [hf2 j (by omega) hj, pg_out la (by omega), pg_out lab (by omega)]), o⟩
      · exact absurd c11 (by omega)
    | succ m ih =>
      intro k R' cy y5 hk o hf hf2 hc hc2
      have g0 : (am_up h 44 (eI 1920 R')).2 43 = _ := (am_up_ne h (eI 1920 R') (show 43 ≠ 44 by decide)).trans h0
      have g1 := am_up_at h 44 (eI 1920 R')
      have e1 := hp_pg (a - b) k
      have e2 := hp_pg a k
      have e3 := hp_pg b k
      have l1 := pg_lt (a - b) k
      have l2 := pg_lt a k
      have l3 := pg_lt b k
      have vx := hf2 k (Nat.le_refl _) (by omega)
      have vy : R' (160 * y + k) = (pg b k : Int) := by rw [o _ (by omega)]; exact q k (by omega)
      refine am_iload4 hC dX5_minus_5 ?_
      refine am_aload0 hC dX5_minus_7 ?_
      refine am_getf hC dX5_minus_8 fX5_9 g0 rfl ?_
      refine am_icmp_ge hC 76 dX5_minus_11 rfl (by omega) (by omega) (fun c11 => ?_) (fun c11 => ?_)
      · exact absurd c11 (by omega)
      · refine am_aload0 hC dX5_minus_14 ?_
        refine am_getf hC dX5_minus_15 fX5_13 g0 rfl ?_
        refine am_sipush hC dX5_minus_18 rfl ?_
        refine am_iload1 hC dX5_minus_21 ?_
        refine am_imul hC dX5_minus_22 ?_
        refine am_iload4 hC dX5_minus_23 ?_
        refine am_iadd hC dX5_minus_25 ?_
        refine am_iald hC dX5_minus_26 g1 (by omega) (by omega) ?_
        refine am_aload0 hC dX5_minus_27 ?_
        refine am_getf hC dX5_minus_28 fX5_13 g0 rfl ?_
        refine am_sipush hC dX5_minus_31 rfl ?_
        refine am_iload2 hC dX5_minus_34 ?_
        refine am_imul hC dX5_minus_35 ?_
        refine am_iload4 hC dX5_minus_36 ?_
        refine am_iadd hC dX5_minus_38 ?_
        refine am_iald hC dX5_minus_39 g1 (by omega) (by omega) ?_
        rw [show (160 * (x : Int) + (k : Int)) = ((160 * x + k : Nat) : Int) by omega, show (160 * (y : Int) + (k : Int)) = ((160 * y + k : Nat) : Int) by omega, Int.toNat_natCast, Int.toNat_natCast, vx, vy]
        refine am_isub hC dX5_minus_40 ?_
        refine am_iload3 hC dX5_minus_41 ?_
        refine am_iadd hC dX5_minus_42 ?_
        refine am_istore5 hC dX5_minus_43 rfl ?_
        refine am_aload0 hC dX5_minus_45 ?_
        refine am_getf hC dX5_minus_46 fX5_13 g0 rfl ?_
        refine am_sipush hC dX5_minus_49 rfl ?_
        refine am_iload1 hC dX5_minus_52 ?_
        refine am_imul hC dX5_minus_53 ?_
        refine am_iload4 hC dX5_minus_54 ?_
        refine am_iadd hC dX5_minus_56 ?_
        refine am_iload5 hC dX5_minus_57 ?_
        refine am_sipush hC dX5_minus_59 rfl ?_
        refine am_iand hC 15 32768 dX5_minus_62 (by decide) rfl rfl ?_
        rw [show (160 * (x : Int) + (k : Int)) = ((160 * x + k : Nat) : Int) by omega]
        refine am_iast hC dX5_minus_63 g1 (by omega) (by omega) ?_
        rw [Int.toNat_natCast, am_up_up]
        refine am_iload5 hC dX5_minus_64 ?_
        refine am_bipush hC dX5_minus_66 rfl ?_
        refine am_ishr hC 15 dX5_minus_68 (by omega) rfl (by decide) ?_
        refine am_istore3 hC dX5_minus_69 rfl ?_
        refine am_iinc4 hC dX5_minus_70 rfl ?_
        refine am_goto hC 5 dX5_minus_73 rfl ?_
        rw [show (k : Int) + 1 = ((k + 1 : Nat) : Int) by omega]
        refine ih (k + 1) _ _ _ (by omega) (o.fu (by omega)) (fun j hj => ?_) (fun j hj hj2 => ?_) (by omega) (by omega)
        · by_cases e : j = k
          · subst e; rw [am_fu_at]; omega
          · rw [am_fu_lt (by omega)]; exact hf j (by omega)
        · rw [am_fu_lt (by omega)]; exact hf2 j (by omega) hj2
  refine am_iconst hC dX5_minus_0 ?_
  refine am_istore3 hC dX5_minus_1 rfl ?_
  refine am_iconst hC dX5_minus_2 ?_
  refine am_istore4 hC dX5_minus_3 rfl ?_
  have := loop wd 0 R 0 none (Nat.zero_add _) (rK.rf _ _) (fun j hj => by omega) (fun j _ hj => p j hj) (by rw [hp_0, hp_0, hp_0]; omega) (by omega)
  rw [am_up_self h1] at this
  exact this
theorem m_Mtwice (l : Launch) (g : am_G) {h : am_H} {wd x a : Nat} {R : Nat → Int} (w : rX h wd R) (hx : x < 12) (p : rg R x a) (hab : 2 * a < 32768 ^ wd) :
    am_Met l g yX5_twice (am_W1 yX5_twice cX5_twice 5 none) 1 0 0 [.ref 43, vI (x : Int)] h (qN fun h1 => ∃ R', h1 = am_up h 44 (eI 1920 R') ∧ rg R' x (2 * a) ∧ rK R R' x) := by
  obtain ⟨⟨th, us, ro, to, h0⟩, h1, w1, w2⟩ := w
  have la : a < 32768 ^ wd := by omega
  refine am_mk [some (.ref 43), some (vI (x : Int)), none, none, none] 3 rfl rfl (by decide +kernel) (fun z hl hg hC hT _ => ?_)
  have loop : ∀ (m k : Nat) (R' : Nat → Int) (cy : Int) (y5 : Option Value), k + m = wd → rK R R' x → (∀ j, j < k → R' (160 * x + j) = (pg (2 * a) j : Int)) → (∀ j, k ≤ j → j < 160 → R' (160 * x + j) = (pg a j : Int)) → cy = (hp (2 * a) k : Int) - 2 * hp a k → 0 ≤ cy ∧ cy ≤ 1 → am_W z 4 0 0 (am_up h 44 (eI 1920 R')) [some (.ref 43), some (vI (x : Int)), some (vI cy), some (vI (k : Int)), y5] [] := by
    intro m
    induction m with
    | zero =>
      intro k R' cy y5 hk o hf hf2 hc hc2
      have g0 : (am_up h 44 (eI 1920 R')).2 43 = _ := (am_up_ne h (eI 1920 R') (show 43 ≠ 44 by decide)).trans h0
      refine am_iload3 hC dX5_twice_4 ?_
      refine am_aload0 hC dX5_twice_5 ?_
      refine am_getf hC dX5_twice_6 fX5_9 g0 rfl ?_
      refine am_icmp_ge hC 60 dX5_twice_9 rfl (by omega) (by omega) (fun c9 => ?_) (fun c9 => ?_)
      · exact am_vret hC hT dX5_twice_60 (by omega) (by omega) ⟨rfl, R', rfl, fun j hj => by by_cases e : j < k; (· exact hf j e); (· rw [hf2 j (by omega) hj, pg_out la (by omega), pg_out hab (by omega)]), o⟩
      · exact absurd c9 (by omega)
    | succ m ih =>
      intro k R' cy y5 hk o hf hf2 hc hc2
      have g0 : (am_up h 44 (eI 1920 R')).2 43 = _ := (am_up_ne h (eI 1920 R') (show 43 ≠ 44 by decide)).trans h0
      have g1 := am_up_at h 44 (eI 1920 R')
      have e1 := hp_pg (2 * a) k
      have e2 := hp_pg a k
      have l1 := pg_lt (2 * a) k
      have l2 := pg_lt a k
      have vx := hf2 k (Nat.le_refl _) (by omega)
      refine am_iload3 hC dX5_twice_4 ?_
      refine am_aload0 hC dX5_twice_5 ?_
      refine am_getf hC dX5_twice_6 fX5_9 g0 rfl ?_
      refine am_icmp_ge hC 60 dX5_twice_9 rfl (by omega) (by omega) (fun c9 => ?_) (fun c9 => ?_)
      · exact absurd c9 (by omega)
      · refine am_aload0 hC dX5_twice_12 ?_
        refine am_getf hC dX5_twice_13 fX5_13 g0 rfl ?_
        refine am_sipush hC dX5_twice_16 rfl ?_
        refine am_iload1 hC dX5_twice_19 ?_
        refine am_imul hC dX5_twice_20 ?_
        refine am_iload3 hC dX5_twice_21 ?_
        refine am_iadd hC dX5_twice_22 ?_
        refine am_iald hC dX5_twice_23 g1 (by omega) (by omega) ?_
        rw [show (160 * (x : Int) + (k : Int)) = ((160 * x + k : Nat) : Int) by omega, Int.toNat_natCast, vx]
        refine am_iconst hC dX5_twice_24 ?_
        refine am_imul hC dX5_twice_25 ?_
        refine am_iload2 hC dX5_twice_26 ?_
        refine am_iadd hC dX5_twice_27 ?_
        refine am_istore4 hC dX5_twice_28 rfl ?_
        refine am_aload0 hC dX5_twice_30 ?_
        refine am_getf hC dX5_twice_31 fX5_13 g0 rfl ?_
        refine am_sipush hC dX5_twice_34 rfl ?_
        refine am_iload1 hC dX5_twice_37 ?_
        refine am_imul hC dX5_twice_38 ?_
        refine am_iload3 hC dX5_twice_39 ?_
        refine am_iadd hC dX5_twice_40 ?_
        refine am_iload4 hC dX5_twice_41 ?_
        refine am_sipush hC dX5_twice_43 rfl ?_
        refine am_iand hC 15 32768 dX5_twice_46 (by decide) rfl rfl ?_
        rw [show (160 * (x : Int) + (k : Int)) = ((160 * x + k : Nat) : Int) by omega]
        refine am_iast hC dX5_twice_47 g1 (by omega) (by omega) ?_
        rw [Int.toNat_natCast, am_up_up]
        refine am_iload4 hC dX5_twice_48 ?_
        refine am_bipush hC dX5_twice_50 rfl ?_
        refine am_ishr hC 15 dX5_twice_52 (by omega) rfl (by decide) ?_
        refine am_istore2 hC dX5_twice_53 rfl ?_
        refine am_iinc3 hC dX5_twice_54 rfl ?_
        refine am_goto hC 4 dX5_twice_57 rfl ?_
        rw [show (k : Int) + 1 = ((k + 1 : Nat) : Int) by omega]
        refine ih (k + 1) _ _ _ (by omega) (o.fu (by omega)) (fun j hj => ?_) (fun j hj hj2 => ?_) (by omega) (by omega)
        · by_cases e : j = k
          · subst e; rw [am_fu_at]; omega
          · rw [am_fu_lt (by omega)]; exact hf j (by omega)
        · rw [am_fu_lt (by omega)]; exact hf2 j (by omega) hj2
  refine am_iconst hC dX5_twice_0 ?_
  refine am_istore2 hC dX5_twice_1 rfl ?_
  refine am_iconst hC dX5_twice_2 ?_
  refine am_istore3 hC dX5_twice_3 rfl ?_
  have := loop wd 0 R 0 none (Nat.zero_add _) (rK.rf _ _) (fun j hj => by omega) (fun j _ hj => p j hj) (by rw [hp_0, hp_0]; omega) (by omega)
  rw [am_up_self h1] at this
  exact this

/-! half, isEven, isZero, compare, size, bit -/
theorem hp_half (a k : Nat) : hp (a / 2) k = hp a k / 2 := by unfold hp; rw [Nat.div_div_eq_div_mul, Nat.div_div_eq_div_mul, Nat.mul_comm]
theorem m_Mhalf (l : Launch) (g : am_G) {h : am_H} {wd x a : Nat} {R : Nat → Int} (w : rX h wd R) (hx : x < 12) (p : rg R x a) (la : a < 32768 ^ wd) :
    am_Met l g yX5_half (am_W1 yX5_half cX5_half 4 none) 1 0 0 [.ref 43, vI (x : Int)] h (qN fun h1 => ∃ R', h1 = am_up h 44 (eI 1920 R') ∧ rg R' x (a / 2) ∧ rK R R' x) := by
  obtain ⟨⟨th, us, ro, to, h0⟩, h1, w1, w2⟩ := w
  have lh : a / 2 < 32768 ^ wd := by omega
  refine am_mk [some (.ref 43), some (vI (x : Int)), none, none] 2 rfl rfl (by decide +kernel) (fun z hl hg hC hT _ => ?_)
  have loop : ∀ (m k : Nat) (R' : Nat → Int) (y5 : Option Value), k + m = wd → rK R R' x → (∀ j, j < k → R' (160 * x + j) = (pg (a / 2) j : Int)) → (∀ j, k ≤ j → j < 160 → R' (160 * x + j) = (pg a j : Int)) → am_W z 2 0 0 (am_up h 44 (eI 1920 R')) [some (.ref 43), some (vI (x : Int)), some (vI (k : Int)), y5] [] := by
    intro m
    induction m with
    | zero =>
      intro k R' y5 hk o hf hf2
      have g0 : (am_up h 44 (eI 1920 R')).2 43 = _ := (am_up_ne h (eI 1920 R') (show 43 ≠ 44 by decide)).trans h0
      refine am_iload2 hC dX5_half_2 ?_
      refine am_aload0 hC dX5_half_3 ?_
      refine am_getf hC dX5_half_4 fX5_9 g0 rfl ?_
      refine am_icmp_ge hC 77 dX5_half_7 rfl (by omega) (by omega) (fun c7 => ?_) (fun c7 => ?_)
      · exact am_vret hC hT dX5_half_77 (by omega) (by omega) ⟨rfl, R', rfl, fun j hj => by by_cases e : j < k; (· exact hf j e); (· rw [hf2 j (by omega) hj, pg_out la (by omega), pg_out lh (by omega)]), o⟩
      · exact absurd c7 (by omega)
    | succ m ih =>
      intro k R' y5 hk o hf hf2
      have g0 : (am_up h 44 (eI 1920 R')).2 43 = _ := (am_up_ne h (eI 1920 R') (show 43 ≠ 44 by decide)).trans h0
      have g1 := am_up_at h 44 (eI 1920 R')
      have e1 := hp_pg a k
      have e2 := hp_pg a (k + 1)
      have e3 := hp_pg (a / 2) k
      have e4 := hp_half a k
      have l1 := pg_lt (a / 2) k
      have l2 := pg_lt a k
      have l3 := pg_lt a (k + 1)
      have vx := hf2 k (Nat.le_refl _) (by omega)
      have nx : ∀ (nv : Int), nv = ((pg a (k + 1) % 2 : Nat) : Int) → am_W z 39 0 0 (am_up h 44 (eI 1920 R')) [some (.ref 43), some (vI (x : Int)), some (vI (k : Int)), y5] [vI nv] := by
        intro nv hnv
        refine am_istore3 hC dX5_half_39 rfl ?_
        refine am_aload0 hC dX5_half_40 ?_
        refine am_getf hC dX5_half_41 fX5_13 g0 rfl ?_
        refine am_sipush hC dX5_half_44 rfl ?_
        refine am_iload1 hC dX5_half_47 ?_
        refine am_imul hC dX5_half_48 ?_
        refine am_iload2 hC dX5_half_49 ?_
        refine am_iadd hC dX5_half_50 ?_
        refine am_aload0 hC dX5_half_51 ?_
        refine am_getf hC dX5_half_52 fX5_13 g0 rfl ?_
        refine am_sipush hC dX5_half_55 rfl ?_
        refine am_iload1 hC dX5_half_58 ?_
        refine am_imul hC dX5_half_59 ?_
        refine am_iload2 hC dX5_half_60 ?_
        refine am_iadd hC dX5_half_61 ?_
        refine am_iald hC dX5_half_62 g1 (by omega) (by omega) ?_
        rw [show (160 * (x : Int) + (k : Int)) = ((160 * x + k : Nat) : Int) by omega, Int.toNat_natCast, vx]
        refine am_iconst hC dX5_half_63 ?_
        refine am_ishr hC 1 dX5_half_64 (by omega) rfl (by decide) ?_
        refine am_iload3 hC dX5_half_65 ?_
        refine am_bipush hC dX5_half_66 rfl ?_
        refine am_ishl hC 14 dX5_half_68 rfl (by decide) ?_
        refine am_ior hC 14 dX5_half_69 (by decide) (by omega) (by omega) ?_
        refine am_iast hC dX5_half_70 g1 (by omega) (by omega) ?_
        rw [Int.toNat_natCast, am_up_up]
        refine am_iinc2 hC dX5_half_71 rfl ?_
        refine am_goto hC 2 dX5_half_74 rfl ?_
        rw [show (k : Int) + 1 = ((k + 1 : Nat) : Int) by omega]
        refine ih (k + 1) _ _ (by omega) (o.fu (by omega)) (fun j hj => ?_) (fun j hj hj2 => ?_)
        · by_cases e : j = k
          · subst e; rw [am_fu_at]; omega
          · rw [am_fu_lt (by omega)]; exact hf j (by omega)
        · rw [am_fu_lt (by omega)]; exact hf2 j (by omega) hj2
      refine am_iload2 hC dX5_half_2 ?_
      refine am_aload0 hC dX5_half_3 ?_
      refine am_getf hC dX5_half_4 fX5_9 g0 rfl ?_
      refine am_icmp_ge hC 77 dX5_half_7 rfl (by omega) (by omega) (fun c7 => ?_) (fun c7 => ?_)
      · exact absurd c7 (by omega)
      · refine am_iload2 hC dX5_half_10 ?_
        refine am_iconst hC dX5_half_11 ?_
        refine am_iadd hC dX5_half_12 ?_
        refine am_sipush hC dX5_half_13 rfl ?_
        refine am_icmp_ge hC 38 dX5_half_16 rfl (by omega) (by omega) (fun c16 => ?_) (fun c16 => ?_)
        · refine am_iconst hC dX5_half_38 ?_
          first
            | exact nx _ (by omega)
            | exact nx _ (by rw [pg_out la (by omega)]; rfl)
        · refine am_aload0 hC dX5_half_19 ?_
          refine am_getf hC dX5_half_20 fX5_13 g0 rfl ?_
          refine am_sipush hC dX5_half_23 rfl ?_
          refine am_iload1 hC dX5_half_26 ?_
          refine am_imul hC dX5_half_27 ?_
          refine am_iload2 hC dX5_half_28 ?_
          refine am_iadd hC dX5_half_29 ?_
          refine am_iconst hC dX5_half_30 ?_
          refine am_iadd hC dX5_half_31 ?_
          refine am_iald hC dX5_half_32 g1 (by omega) (by omega) ?_
          rw [show (160 * (x : Int) + (k : Int) + 1) = ((160 * x + (k + 1) : Nat) : Int) by omega, Int.toNat_natCast, hf2 (k + 1) (by omega) (by omega)]
          refine am_iconst hC dX5_half_33 ?_
          refine am_iand hC 1 2 dX5_half_34 (by decide) rfl rfl ?_
          refine am_goto hC 39 dX5_half_35 rfl ?_
          first
            | exact nx _ (by omega)
            | exact nx _ (by rw [pg_out la (by omega)]; rfl)
  refine am_iconst hC dX5_half_0 ?_
  refine am_istore2 hC dX5_half_1 rfl ?_
  have := loop wd 0 R none (Nat.zero_add _) (rK.rf _ _) (fun j hj => by omega) (fun j _ hj => p j hj)
  rw [am_up_self h1] at this
  exact this
theorem m_MisEven (l : Launch) (g : am_G) {h : am_H} {wd x a : Nat} {R : Nat → Int} (w : rX h wd R) (hx : x < 12) (p : rg R x a) :
    am_Met l g yX5_isEven (am_W1 yX5_isEven cX5_isEven 2 (some .boolean)) 1 0 0 [.ref 43, vI (x : Int)] h (pI (if a % 2 = 0 then 1 else 0) h) := by
  obtain ⟨⟨th, us, ro, to, h0⟩, h1, w1, w2⟩ := w
  have v0 := p 0 (by decide)
  rw [Nat.add_zero] at v0
  have e : pg a 0 = a % 32768 := by unfold pg; rw [hp_0]
  refine am_mk [some (.ref 43), some (vI (x : Int))] 0 rfl rfl (by decide +kernel) (fun z hl hg hC hT _ => ?_)
  refine am_aload0 hC dX5_isEven_0 ?_
  refine am_getf hC dX5_isEven_1 fX5_13 h0 rfl ?_
  refine am_sipush hC dX5_isEven_4 rfl ?_
  refine am_iload1 hC dX5_isEven_7 ?_
  refine am_imul hC dX5_isEven_8 ?_
  refine am_iald hC dX5_isEven_9 h1 (by omega) (by omega) ?_
  rw [show (160 * (x : Int)) = ((160 * x : Nat) : Int) by omega, Int.toNat_natCast, v0, e]
  refine am_iconst hC dX5_isEven_10 ?_
  refine am_iand hC 1 2 dX5_isEven_11 (by decide) rfl rfl ?_
  refine am_if_ne hC 19 dX5_isEven_12 rfl (by omega) (fun c12 => ?_) (fun c12 => ?_)
  · refine am_iconst hC dX5_isEven_19 ?_
    first
      | exact am_zret hC hT dX5_isEven_20 (by omega) (by omega) (by omega) ⟨sI (by rw [if_pos (by omega)]), rfl⟩
      | exact am_zret hC hT dX5_isEven_20 (by omega) (by omega) (by omega) ⟨sI (by rw [if_neg (by omega)]), rfl⟩
  · refine am_iconst hC dX5_isEven_15 ?_
    refine am_goto hC 20 dX5_isEven_16 rfl ?_
    first
      | exact am_zret hC hT dX5_isEven_20 (by omega) (by omega) (by omega) ⟨sI (by rw [if_pos (by omega)]), rfl⟩
      | exact am_zret hC hT dX5_isEven_20 (by omega) (by omega) (by omega) ⟨sI (by rw [if_neg (by omega)]), rfl⟩
theorem m_MisZero (l : Launch) (g : am_G) {h : am_H} {wd x a : Nat} {R : Nat → Int} (w : rX h wd R) (hx : x < 12) (p : rg R x a) (la : a < 32768 ^ wd) :
    am_Met l g yX5_isZero (am_W1 yX5_isZero cX5_isZero 4 (some .boolean)) 1 0 0 [.ref 43, vI (x : Int)] h (pI (if a = 0 then 1 else 0) h) := by
  obtain ⟨⟨th, us, ro, to, h0⟩, h1, w1, w2⟩ := w
  refine am_mk [some (.ref 43), some (vI (x : Int)), none, none] 2 rfl rfl (by decide +kernel) (fun z hl hg hC hT _ => ?_)
  have fin : ∀ (k : Nat) (is : Int), (is = 1 ∧ a = 0) ∨ (is = 0 ∧ a ≠ 0) → am_W z 47 0 0 h [some (.ref 43), some (vI (x : Int)), some (vI is), some (vI (k : Int))] [] := by
    intro k is hi
    refine am_iload2 hC dX5_isZero_47 ?_
    exact am_zret hC hT dX5_isZero_48 (by omega) (by omega) (by omega) ⟨sI (by rcases hi with ⟨e, c⟩ | ⟨e, c⟩; (· rw [if_pos c, e]); (· rw [if_neg c, e])), rfl⟩
  have loop : ∀ (m k : Nat) (is : Int), k + m = wd → (is = 1 ∧ (hp a k = 0 ↔ a = 0)) ∨ (is = 0 ∧ a ≠ 0) → am_W z 4 0 0 h [some (.ref 43), some (vI (x : Int)), some (vI is), some (vI (k : Int))] [] := by
    intro m
    induction m with
    | zero =>
      intro k is hk hi
      have hz : hp a k = 0 := hp_out la (by omega)
      refine am_iload3 hC dX5_isZero_4 ?_
      refine am_aload0 hC dX5_isZero_5 ?_
      refine am_getf hC dX5_isZero_6 fX5_9 h0 rfl ?_
      refine am_icmp_ge hC 47 dX5_isZero_9 rfl (by omega) (by omega) (fun c9 => ?_) (fun c9 => ?_)
      · exact fin k is (by rcases hi with ⟨e, c⟩ | c; (· exact Or.inl ⟨e, c.mp hz⟩); (· exact Or.inr c))
      · exact absurd c9 (by omega)
    | succ m ih =>
      intro k is hk hi
      have e1 := hp_pg a k
      have l1 := pg_lt a k
      have vx := p k (by omega)
      refine am_iload3 hC dX5_isZero_4 ?_
      refine am_aload0 hC dX5_isZero_5 ?_
      refine am_getf hC dX5_isZero_6 fX5_9 h0 rfl ?_
      refine am_icmp_ge hC 47 dX5_isZero_9 rfl (by omega) (by omega) (fun c9 => ?_) (fun c9 => ?_)
      · exact absurd c9 (by omega)
      · refine am_iload2 hC dX5_isZero_12 ?_
        refine am_if_eq hC 47 dX5_isZero_13 rfl (by omega) (fun c13 => ?_) (fun c13 => ?_)
        · exact fin k is (by rcases hi with ⟨e, c⟩ | c; (· omega); (· exact Or.inr c))
        · refine am_iload2 hC dX5_isZero_16 ?_
          refine am_if_eq hC 39 dX5_isZero_17 rfl (by omega) (fun c17 => ?_) (fun c17 => ?_)
          · exact absurd c17 (by omega)
          · refine am_aload0 hC dX5_isZero_20 ?_
            refine am_getf hC dX5_isZero_21 fX5_13 h0 rfl ?_
            refine am_sipush hC dX5_isZero_24 rfl ?_
            refine am_iload1 hC dX5_isZero_27 ?_
            refine am_imul hC dX5_isZero_28 ?_
            refine am_iload3 hC dX5_isZero_29 ?_
            refine am_iadd hC dX5_isZero_30 ?_
            refine am_iald hC dX5_isZero_31 h1 (by omega) (by omega) ?_
            rw [show (160 * (x : Int) + (k : Int)) = ((160 * x + k : Nat) : Int) by omega, Int.toNat_natCast, vx]
            refine am_if_ne hC 39 dX5_isZero_32 rfl (by omega) (fun c32 => ?_) (fun c32 => ?_)
            · refine am_iconst hC dX5_isZero_39 ?_
              refine am_istore2 hC dX5_isZero_40 rfl ?_
              refine am_iinc3 hC dX5_isZero_41 rfl ?_
              refine am_goto hC 4 dX5_isZero_44 rfl ?_
              rw [show (k : Int) + 1 = ((k + 1 : Nat) : Int) by omega]
              refine ih (k + 1) 0 (by omega) (Or.inr ⟨rfl, fun a0 => ?_⟩)
              rw [a0, pg_0] at c32
              exact c32 rfl
            refine am_iconst hC dX5_isZero_35 ?_
            refine am_goto hC 40 dX5_isZero_36 rfl ?_
            refine am_istore2 hC dX5_isZero_40 rfl ?_
            refine am_iinc3 hC dX5_isZero_41 rfl ?_
            refine am_goto hC 4 dX5_isZero_44 rfl ?_
            rw [show (k : Int) + 1 = ((k + 1 : Nat) : Int) by omega]
            refine ih (k + 1) 1 (by omega) (Or.inl ⟨rfl, ?_⟩)
            rcases hi with ⟨e, c⟩ | c
            · rw [← c]; omega
            · omega
  refine am_iconst hC dX5_isZero_0 ?_
  refine am_istore2 hC dX5_isZero_1 rfl ?_
  refine am_iconst hC dX5_isZero_2 ?_
  refine am_istore3 hC dX5_isZero_3 rfl ?_
  exact loop wd 0 1 (Nat.zero_add _) (Or.inl ⟨rfl, by rw [hp_0]⟩)
theorem hp_mono {a b : Nat} (k : Nat) (h : a ≤ b) : hp a k ≤ hp b k := Nat.div_le_div_right h
theorem m_Mcompare (l : Launch) (g : am_G) {h : am_H} {wd x y a b : Nat} {R : Nat → Int} (w : rX h wd R) (hx : x < 12) (hy : y < 12) (p : rg R x a) (q : rg R y b) (la : a < 32768 ^ wd) (lb : b < 32768 ^ wd) :
    am_Met l g yX5_compare (am_W1 yX5_compare cX5_compare 5 (some .int)) 1 0 0 [.ref 43, vI (x : Int), vI (y : Int)] h (pI (cmpN a b) h) := by
  obtain ⟨⟨th, us, ro, to, h0⟩, h1, w1, w2⟩ := w
  refine am_mk [some (.ref 43), some (vI (x : Int)), some (vI (y : Int)), none, none] 2 rfl rfl (by decide +kernel) (fun z hl hg hC hT _ => ?_)
  have loop : ∀ (n : Nat) (y4 : Option Value), n ≤ wd → hp a n = hp b n → am_W z 7 0 0 h [some (.ref 43), some (vI (x : Int)), some (vI (y : Int)), some (vI ((n : Int) - 1)), y4] [] := by
    intro n
    induction n with
    | zero =>
      intro y4 hn he
      rw [hp_0, hp_0] at he
      refine am_iload3 hC dX5_compare_7 ?_
      refine am_if_lt hC 60 dX5_compare_8 rfl (by omega) (fun c8 => ?_) (fun c8 => ?_)
      · refine am_iconst hC dX5_compare_60 ?_
        exact am_iret hC hT dX5_compare_61 (by omega) (by omega) ⟨sI (by rw [he, cmpN_eq]), rfl⟩
      · exact absurd c8 (by omega)
    | succ n ih =>
      intro y4 hn he
      rw [show ((n + 1 : Nat) : Int) - 1 = (n : Int) by omega]
      have e1 := hp_pg a n
      have e2 := hp_pg b n
      have l1 := pg_lt a n
      have l2 := pg_lt b n
      have vx := p n (by omega)
      have vy := q n (by omega)
      have lt : pg a n < pg b n → a < b := fun c => by
        rcases Nat.lt_or_ge a b with d | d
        · exact d
        · have := hp_mono n d; omega
      have gt : pg b n < pg a n → b < a := fun c => by
        rcases Nat.lt_or_ge b a with d | d
        · exact d
        · have := hp_mono n d; omega
      refine am_iload3 hC dX5_compare_7 ?_
      refine am_if_lt hC 60 dX5_compare_8 rfl (by omega) (fun c8 => ?_) (fun c8 => ?_)
      · exact absurd c8 (by omega)
      · refine am_aload0 hC dX5_compare_11 ?_
        refine am_getf hC dX5_compare_12 fX5_13 h0 rfl ?_
        refine am_sipush hC dX5_compare_15 rfl ?_
        refine am_iload1 hC dX5_compare_18 ?_
        refine am_imul hC dX5_compare_19 ?_
        refine am_iload3 hC dX5_compare_20 ?_
        refine am_iadd hC dX5_compare_21 ?_
        refine am_iald hC dX5_compare_22 h1 (by omega) (by omega) ?_
        refine am_aload0 hC dX5_compare_23 ?_
        refine am_getf hC dX5_compare_24 fX5_13 h0 rfl ?_
        refine am_sipush hC dX5_compare_27 rfl ?_
        refine am_iload2 hC dX5_compare_30 ?_
        refine am_imul hC dX5_compare_31 ?_
        refine am_iload3 hC dX5_compare_32 ?_
        refine am_iadd hC dX5_compare_33 ?_
        refine am_iald hC dX5_compare_34 h1 (by omega) (by omega) ?_
        rw [show (160 * (x : Int) + (n : Int)) = ((160 * x + n : Nat) : Int) by omega, show (160 * (y : Int) + (n : Int)) = ((160 * y + n : Nat) : Int) by omega, Int.toNat_natCast, Int.toNat_natCast, vx, vy]
        refine am_isub hC dX5_compare_35 ?_
        refine am_istore4 hC dX5_compare_36 rfl ?_
        refine am_iload4 hC dX5_compare_38 ?_
        refine am_if_eq hC 54 dX5_compare_40 rfl (by omega) (fun c40 => ?_) (fun c40 => ?_)
        · refine am_iinc3 hC dX5_compare_54 rfl ?_
          refine am_goto hC 7 dX5_compare_57 rfl ?_
          rw [show (n : Int) + -1 = (n : Int) - 1 by omega]
          exact ih _ (by omega) (by omega)
        · refine am_iload4 hC dX5_compare_43 ?_
          refine am_if_ge hC 52 dX5_compare_45 rfl (by omega) (fun c45 => ?_) (fun c45 => ?_)
          · refine am_iconst hC dX5_compare_52 ?_
            first
              | exact am_iret hC hT dX5_compare_53 (by omega) (by omega) ⟨sI (by rw [cmpN_lt (lt (by omega))]), rfl⟩
              | exact am_iret hC hT dX5_compare_53 (by omega) (by omega) ⟨sI (by rw [cmpN_gt (gt (by omega))]), rfl⟩
          · refine am_iconst hC dX5_compare_48 ?_
            refine am_goto hC 53 dX5_compare_49 rfl ?_
            first
              | exact am_iret hC hT dX5_compare_53 (by omega) (by omega) ⟨sI (by rw [cmpN_lt (lt (by omega))]), rfl⟩
              | exact am_iret hC hT dX5_compare_53 (by omega) (by omega) ⟨sI (by rw [cmpN_gt (gt (by omega))]), rfl⟩
  refine am_aload0 hC dX5_compare_0 ?_
  refine am_getf hC dX5_compare_1 fX5_9 h0 rfl ?_
  refine am_iconst hC dX5_compare_4 ?_
  refine am_isub hC dX5_compare_5 ?_
  refine am_istore3 hC dX5_compare_6 rfl ?_
  exact loop wd _ (Nat.le_refl _) (by rw [hp_out la (Nat.le_refl _), hp_out lb (Nat.le_refl _)])

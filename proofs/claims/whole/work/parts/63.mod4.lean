/-! size, bit, product -/
theorem bitp (a k : Nat) : pg a (k / 15) / 2 ^ (k % 15) % 2 = a / 2 ^ k % 2 := by
  have h1 : hp a (k / 15) / 2 ^ (k % 15) = a / 2 ^ k := by
    unfold hp
    rw [Nat.div_div_eq_div_mul, show (32768 : Nat) = 2 ^ 15 from rfl, ← Nat.pow_mul, ← Nat.pow_add, show 15 * (k / 15) + k % 15 = k from Nat.div_add_mod k 15]
  have h2 : k % 15 < 15 := Nat.mod_lt _ (by decide)
  rw [← h1]
  unfold pg
  rw [show (32768 : Nat) = 2 ^ (k % 15) * (2 * 2 ^ (14 - k % 15)) by rw [← Nat.pow_succ', ← Nat.pow_add, show k % 15 + (14 - k % 15 + 1) = 15 by omega], Nat.mod_mul_right_div_self, Nat.mod_mul_right_mod]
theorem B15 (wd : Nat) : 32768 ^ wd = 2 ^ (15 * wd) := by rw [Nat.pow_mul]
theorem pg_i2 (a k j : Nat) : ((pg a k : Int) / 2 ^ j) % 2 = ((pg a k / 2 ^ j % 2 : Nat) : Int) := by rw [Int.natCast_emod, Int.natCast_ediv, Int.natCast_pow]; rfl
theorem m_Msize (l : Launch) (g : am_G) {h : am_H} {wd x a : Nat} {R : Nat → Int} (w : rX h wd R) (hx : x < 12) (p : rg R x a) (la : a < 32768 ^ wd) :
    am_Met l g yX5_size (am_W1 yX5_size cX5_size 3 (some .int)) 1 0 0 [.ref 43, vI (x : Int)] h (pI (bl a : Int) h) := by
  obtain ⟨⟨th, us, ro, to, h0⟩, h1, w1, w2⟩ := w
  refine am_mk [some (.ref 43), some (vI (x : Int)), none] 1 rfl rfl (by decide +kernel) (fun z hl hg hC hT _ => ?_)
  have loop : ∀ (n : Nat), n ≤ 15 * wd → bl a ≤ n → am_W z 10 0 0 h [some (.ref 43), some (vI (x : Int)), some (vI ((n : Int) - 1))] [] := by
    intro n
    induction n with
    | zero =>
      intro hn hb
      refine am_iload2 hC dX5_size_10 ?_
      refine am_if_lt hC 50 dX5_size_11 rfl (by omega) (fun c11 => ?_) (fun c11 => ?_)
      · refine am_iconst hC dX5_size_50 ?_
        exact am_iret hC hT dX5_size_51 (by omega) (by omega) ⟨sI (by omega), rfl⟩
      · exact absurd c11 (by omega)
    | succ n ih =>
      intro hn hb
      rw [show ((n + 1 : Nat) : Int) - 1 = (n : Int) by omega]
      have vx := p (n / 15) (by omega)
      have td : ((n : Nat) : Int).tdiv 15 = ((n / 15 : Nat) : Int) := by rw [Int.tdiv_eq_ediv_of_nonneg (by omega)]; rfl
      have tm : ((n : Nat) : Int).tmod 15 = ((n % 15 : Nat) : Int) := by rw [Int.tmod_eq_emod_of_nonneg (by omega)]; rfl
      have l1 := pg_lt a (n / 15)
      have b1 := bitp a n
      have a1 : a < 2 ^ (n + 1) := bl_le.mp hb
      have a2 : a / 2 ^ n < 2 := by rw [Nat.div_lt_iff_lt_mul (Nat.two_pow_pos n), Nat.mul_comm, ← Nat.pow_succ]; exact a1
      obtain ⟨bt, hbt⟩ : ∃ bt, bt = a / 2 ^ n := ⟨_, rfl⟩
      have c1 : bt = 0 → bl a ≤ n := fun c => bl_le.mpr (by
        rcases Nat.lt_or_ge a (2 ^ n) with d | d
        · exact d
        · have := Nat.div_pos d (Nat.two_pow_pos n); omega)
      have c2 : bt ≠ 0 → bl a = n + 1 := fun c => by
        rcases Nat.lt_or_ge n (bl a) with d | d
        · omega
        · exact absurd (by rw [hbt]; exact Nat.div_eq_of_lt (bl_le.mp d)) c
      rw [← hbt] at b1 a2
      refine am_iload2 hC dX5_size_10 ?_
      refine am_if_lt hC 50 dX5_size_11 rfl (by omega) (fun c11 => ?_) (fun c11 => ?_)
      · exact absurd c11 (by omega)
      · refine am_aload0 hC dX5_size_14 ?_
        refine am_getf hC dX5_size_15 fX5_13 h0 rfl ?_
        refine am_sipush hC dX5_size_18 rfl ?_
        refine am_iload1 hC dX5_size_21 ?_
        refine am_imul hC dX5_size_22 ?_
        refine am_iload2 hC dX5_size_23 ?_
        refine am_bipush hC dX5_size_24 rfl ?_
        refine am_idiv hC dX5_size_26 (by omega) (by omega) (by omega) ?_
        refine am_iadd hC dX5_size_27 ?_
        rw [td, show (160 * (x : Int) + ((n / 15 : Nat) : Int)) = ((160 * x + n / 15 : Nat) : Int) by omega]
        refine am_iald hC dX5_size_28 h1 (by omega) (by omega) ?_
        rw [Int.toNat_natCast, vx]
        refine am_iload2 hC dX5_size_29 ?_
        refine am_bipush hC dX5_size_30 rfl ?_
        refine am_irem hC dX5_size_32 (by omega) (by omega) (by omega) ?_
        rw [tm]
        refine am_ishr hC (n % 15) dX5_size_33 (by omega) rfl (by omega) ?_
        refine am_iconst hC dX5_size_34 ?_
        refine am_iand hC 1 2 dX5_size_35 (by decide) rfl rfl ?_
        rw [pg_i2, b1]
        refine am_iconst hC dX5_size_36 ?_
        refine am_icmp_ne hC 44 dX5_size_37 rfl (by omega) (by omega) (fun c37 => ?_) (fun c37 => ?_)
        · refine am_iinc2 hC dX5_size_44 rfl ?_
          refine am_goto hC 10 dX5_size_47 rfl ?_
          rw [show (n : Int) + -1 = (n : Int) - 1 by omega]
          exact ih (by omega) (c1 (by omega))
        · refine am_iload2 hC dX5_size_40 ?_
          refine am_iconst hC dX5_size_41 ?_
          refine am_iadd hC dX5_size_42 ?_
          exact am_iret hC hT dX5_size_43 (by omega) (by omega) ⟨sI (by have := c2 (by omega); omega), rfl⟩
  refine am_bipush hC dX5_size_0 rfl ?_
  refine am_aload0 hC dX5_size_2 ?_
  refine am_getf hC dX5_size_3 fX5_9 h0 rfl ?_
  refine am_imul hC dX5_size_6 ?_
  refine am_iconst hC dX5_size_7 ?_
  refine am_isub hC dX5_size_8 ?_
  refine am_istore2 hC dX5_size_9 rfl ?_
  rw [show (15 * (wd : Int)) = ((15 * wd : Nat) : Int) by omega]
  exact loop (15 * wd) (Nat.le_refl _) (bl_le.mpr (by rw [← B15]; exact la))
theorem m_Mbit (l : Launch) (g : am_G) {h : am_H} {wd x a k : Nat} {R : Nat → Int} (w : rX h wd R) (hx : x < 12) (p : rg R x a) (hk : k < 2400) :
    am_Met l g yX5_bit (am_W1 yX5_bit cX5_bit 3 (some .int)) 1 0 0 [.ref 43, vI (x : Int), vI (k : Int)] h (pI ((a / 2 ^ k % 2 : Nat) : Int) h) := by
  obtain ⟨⟨th, us, ro, to, h0⟩, h1, w1, w2⟩ := w
  have vx := p (k / 15) (by omega)
  have td : ((k : Nat) : Int).tdiv 15 = ((k / 15 : Nat) : Int) := by rw [Int.tdiv_eq_ediv_of_nonneg (by omega)]; rfl
  have tm : ((k : Nat) : Int).tmod 15 = ((k % 15 : Nat) : Int) := by rw [Int.tmod_eq_emod_of_nonneg (by omega)]; rfl
  have l1 := pg_lt a (k / 15)
  refine am_mk [some (.ref 43), some (vI (x : Int)), some (vI (k : Int))] 0 rfl rfl (by decide +kernel) (fun z hl hg hC hT _ => ?_)
  refine am_aload0 hC dX5_bit_0 ?_
  refine am_getf hC dX5_bit_1 fX5_13 h0 rfl ?_
  refine am_sipush hC dX5_bit_4 rfl ?_
  refine am_iload1 hC dX5_bit_7 ?_
  refine am_imul hC dX5_bit_8 ?_
  refine am_iload2 hC dX5_bit_9 ?_
  refine am_bipush hC dX5_bit_10 rfl ?_
  refine am_idiv hC dX5_bit_12 (by omega) (by omega) (by omega) ?_
  refine am_iadd hC dX5_bit_13 ?_
  rw [td, show (160 * (x : Int) + ((k / 15 : Nat) : Int)) = ((160 * x + k / 15 : Nat) : Int) by omega]
  refine am_iald hC dX5_bit_14 h1 (by omega) (by omega) ?_
  rw [Int.toNat_natCast, vx]
  refine am_iload2 hC dX5_bit_15 ?_
  refine am_bipush hC dX5_bit_16 rfl ?_
  refine am_irem hC dX5_bit_18 (by omega) (by omega) (by omega) ?_
  rw [tm]
  refine am_ishr hC (k % 15) dX5_bit_19 (by omega) rfl (by omega) ?_
  refine am_iconst hC dX5_bit_20 ?_
  refine am_iand hC 1 2 dX5_bit_21 (by decide) rfl rfl ?_
  rw [pg_i2, bitp]
  exact am_iret hC hT dX5_bit_22 (by omega) (by omega) ⟨rfl, rfl⟩
theorem m_Mproduct (l : Launch) (g : am_G) {h : am_H} {wd x y t a b : Nat} {R : Nat → Int} (w : rX h wd R) (hx : x < 12) (hy : y < 12) (ht : t < 12) (hxt : x ≠ t) (hyt : y ≠ t) (p : rg R x a) (q : rg R y b) (hab : a * b < 32768 ^ wd) :
    am_Met l g yX5_product (am_W1 yX5_product cX5_product 11 none) 2 0 0 [.ref 43, vI (x : Int), vI (y : Int), vI (t : Int)] h (qN fun h1 => ∃ R', h1 = am_up h 44 (eI 1920 R') ∧ rg R' t (a * b) ∧ rK R R' t) := by
  have w' := w
  obtain ⟨⟨th, us, ro, to, h0⟩, h1, w1, w2⟩ := w
  refine am_mk [some (.ref 43), some (vI (x : Int)), some (vI (y : Int)), some (vI (t : Int)), none, none, none, none, none, none, none] 7 rfl rfl (by decide +kernel) (fun z hl hg hC hT _ => ?_)
  have Ai : ∀ i, a % 32768 ^ (i + 1) * b = a % 32768 ^ i * b + pg a i * b * 32768 ^ i := by
    intro i
    rw [Nat.pow_succ, Nat.mod_mul, Nat.add_mul]
    unfold pg hp
    rw [Nat.mul_comm (32768 ^ i), Nat.mul_assoc, Nat.mul_assoc, Nat.mul_comm b]
  have outer : ∀ (m i : Nat) (R' : Nat → Int) (y5 y6 y7 y8 y9 y10 : Option Value) (n5 : am_n2 y7 = true), i + m = wd → rK R R' t → rg R' t (a % 32768 ^ i * b) → am_W z 9 0 0 (am_up h 44 (eI 1920 R')) [some (.ref 43), some (vI (x : Int)), some (vI (y : Int)), some (vI (t : Int)), some (vI (i : Int)), y5, y6, y7, y8, y9, y10] [] := by
    intro m
    induction m with
    | zero =>
      intro i R' y5 y6 y7 y8 y9 y10 n5 hi o hf
      have g0 : (am_up h 44 (eI 1920 R')).2 43 = _ := (am_up_ne h (eI 1920 R') (show 43 ≠ 44 by decide)).trans h0
      have fin : a % 32768 ^ i * b = a * b := by
        rcases Nat.eq_zero_or_pos b with c | c
        · subst c; rw [Nat.mul_zero, Nat.mul_zero]
        · rw [Nat.mod_eq_of_lt]
          rw [show i = wd by omega]
          exact Nat.lt_of_le_of_lt (Nat.le_mul_of_pos_right a c) hab
      rw [fin] at hf
      refine am_iload4 hC dX5_product_9 ?_
      refine am_aload0 hC dX5_product_11 ?_
      refine am_getf hC dX5_product_12 fX5_9 g0 rfl ?_
      refine am_icmp_ge hC 139 dX5_product_15 rfl (by omega) (by omega) (fun c15 => ?_) (fun c15 => ?_)
      · exact am_vret hC hT dX5_product_139 (by omega) (by omega) ⟨rfl, R', rfl, hf, o⟩
      · exact absurd c15 (by omega)
    | succ m ih =>
      intro i R' y5 y6 y7 y8 y9 y10 n5 hi o hf
      have g0 : (am_up h 44 (eI 1920 R')).2 43 = _ := (am_up_ne h (eI 1920 R') (show 43 ≠ 44 by decide)).trans h0
      have g1 := am_up_at h 44 (eI 1920 R')
      obtain ⟨M, hM⟩ : ∃ M, M = a % 32768 ^ i * b := ⟨_, rfl⟩
      obtain ⟨N, hN⟩ : ∃ N, N = a % 32768 ^ (i + 1) * b := ⟨_, rfl⟩
      have MN : N = M + pg a i * b * 32768 ^ i := by rw [hN, hM]; exact Ai i
      have lN : N < 32768 ^ wd := Nat.lt_of_le_of_lt (by rw [hN]; exact Nat.mul_le_mul_right _ (Nat.mod_le _ _)) hab
      have lM : M < 32768 ^ wd := by rw [MN] at lN; exact Nat.lt_of_le_of_lt (Nat.le_add_right _ _) lN
      have vx : R' (160 * x + i) = (pg a i : Int) := by rw [o _ (by omega)]; exact p i (by omega)
      have lf := pg_lt a i
      obtain ⟨f, hf0⟩ : ∃ f, f = pg a i := ⟨_, rfl⟩
      rw [← hM] at hf
      rw [← hf0] at MN vx lf
      have hi0 : hp N i = hp M i + f * b := by rw [MN]; unfold hp; rw [Nat.add_mul_div_right _ _ (Nat.pow_pos (by decide))]
      have inner : ∀ (m2 j : Nat) (R2 : Nat → Int) (c : Int) (y9 y10 : Option Value), i + j + m2 = wd → rK R R2 t → (∀ s, s < i + j → R2 (160 * t + s) = (pg N s : Int)) → (∀ s, i + j ≤ s → s < 160 → R2 (160 * t + s) = (pg M s : Int)) → c = (hp N (i + j) : Int) - hp M (i + j) - ((f * hp b j : Nat) : Int) → 0 ≤ c ∧ c ≤ 32767 → am_W z 39 0 0 (am_up h 44 (eI 1920 R2)) [some (.ref 43), some (vI (x : Int)), some (vI (y : Int)), some (vI (t : Int)), some (vI (i : Int)), some (vL c), none, some (vI (f : Int)), some (vI (j : Int)), y9, y10] [] := by
        intro m2
        induction m2 with
        | zero =>
          intro j R2 c y9 y10 hj o2 f1 f2 hc hc2
          have g02 : (am_up h 44 (eI 1920 R2)).2 43 = _ := (am_up_ne h (eI 1920 R2) (show 43 ≠ 44 by decide)).trans h0
          refine am_iload4 hC dX5_product_39 ?_
          refine am_iload8 hC dX5_product_41 ?_
          refine am_iadd hC dX5_product_43 ?_
          refine am_aload0 hC dX5_product_44 ?_
          refine am_getf hC dX5_product_45 fX5_9 g02 rfl ?_
          refine am_icmp_ge hC 133 dX5_product_48 rfl (by omega) (by omega) (fun c48 => ?_) (fun c48 => ?_)
          · refine am_iinc4 hC dX5_product_133 rfl ?_
            refine am_goto hC 9 dX5_product_136 rfl ?_
            rw [show (i : Int) + 1 = ((i + 1 : Nat) : Int) by omega]
            exact ih (i + 1) R2 _ _ _ _ _ _ rfl (by omega) o2 (by rw [← hN]; exact fun s hs => by by_cases e : s < i + j; (· exact f1 s e); (· rw [f2 s (by omega) hs, pg_out lM (by omega), pg_out lN (by omega)]))
          · exact absurd c48 (by omega)
        | succ m2 ih2 =>
          intro j R2 c y9 y10 hj o2 f1 f2 hc hc2
          have g02 : (am_up h 44 (eI 1920 R2)).2 43 = _ := (am_up_ne h (eI 1920 R2) (show 43 ≠ 44 by decide)).trans h0
          have g12 := am_up_at h 44 (eI 1920 R2)
          have e1 := hp_pg N (i + j)
          have e2 := hp_pg M (i + j)
          have e3 := hp_pg b j
          have l1 := pg_lt N (i + j)
          have l2 := pg_lt M (i + j)
          have l3 := pg_lt b j
          have vt := f2 (i + j) (Nat.le_refl _) (by omega)
          have vy : R2 (160 * y + j) = (pg b j : Int) := by rw [o2 _ (by omega)]; exact q j (by omega)
          obtain ⟨pr, hpr⟩ : ∃ pr, pr = f * pg b j := ⟨_, rfl⟩
          have lpr : pr ≤ 32767 * 32767 := by rw [hpr]; exact Nat.mul_le_mul (by omega) (by omega)
          have e4 : f * hp b j = pr + 32768 * (f * hp b (j + 1)) := by rw [e3, Nat.mul_add, Nat.mul_left_comm, ← hpr]
          rw [e4] at hc
          have epr : (f : Int) * (pg b j : Int) = (pr : Int) := by rw [hpr, Int.natCast_mul]
          by_cases f0 : f = 0
          · have MN2 : N = M := by rw [MN, f0, Nat.zero_mul, Nat.zero_mul, Nat.add_zero]
            refine am_iload4 hC dX5_product_39 ?_
            refine am_iload8 hC dX5_product_41 ?_
            refine am_iadd hC dX5_product_43 ?_
            refine am_aload0 hC dX5_product_44 ?_
            refine am_getf hC dX5_product_45 fX5_9 g02 rfl ?_
            refine am_icmp_ge hC 133 dX5_product_48 rfl (by omega) (by omega) (fun c48 => ?_) (fun c48 => ?_)
            · exact absurd c48 (by omega)
            · refine am_iload7 hC dX5_product_51 ?_
              refine am_if_eq hC 133 dX5_product_53 rfl (by omega) (fun c53 => ?_) (fun c53 => ?_)
              · refine am_iinc4 hC dX5_product_133 rfl ?_
                refine am_goto hC 9 dX5_product_136 rfl ?_
                rw [show (i : Int) + 1 = ((i + 1 : Nat) : Int) by omega]
                exact ih (i + 1) R2 _ _ _ _ _ _ rfl (by omega) o2 (by rw [← hN]; exact fun s hs => by by_cases e : s < i + j; (· exact f1 s e); (· rw [f2 s (by omega) hs, MN2]))
              · exact absurd c53 (by omega)
          · refine am_iload4 hC dX5_product_39 ?_
            refine am_iload8 hC dX5_product_41 ?_
            refine am_iadd hC dX5_product_43 ?_
            refine am_aload0 hC dX5_product_44 ?_
            refine am_getf hC dX5_product_45 fX5_9 g02 rfl ?_
            refine am_icmp_ge hC 133 dX5_product_48 rfl (by omega) (by omega) (fun c48 => ?_) (fun c48 => ?_)
            · exact absurd c48 (by omega)
            · refine am_iload7 hC dX5_product_51 ?_
              refine am_if_eq hC 133 dX5_product_53 rfl (by omega) (fun c53 => ?_) (fun c53 => ?_)
              · exact absurd c53 (by omega)
              · refine am_aload0 hC dX5_product_56 ?_
                refine am_getf hC dX5_product_57 fX5_13 g02 rfl ?_
                refine am_sipush hC dX5_product_60 rfl ?_
                refine am_iload3 hC dX5_product_63 ?_
                refine am_imul hC dX5_product_64 ?_
                refine am_iload4 hC dX5_product_65 ?_
                refine am_iadd hC dX5_product_67 ?_
                refine am_iload8 hC dX5_product_68 ?_
                refine am_iadd hC dX5_product_70 ?_
                refine am_iald hC dX5_product_71 g12 (by omega) (by omega) ?_
                rw [show (160 * (t : Int) + (i : Int) + (j : Int)) = ((160 * t + (i + j) : Nat) : Int) by omega, Int.toNat_natCast, vt]
                refine am_i2l hC dX5_product_72 (by omega) ?_
                refine am_iload7 hC dX5_product_73 ?_
                refine am_i2l hC dX5_product_75 (by omega) ?_
                refine am_aload0 hC dX5_product_76 ?_
                refine am_getf hC dX5_product_77 fX5_13 g02 rfl ?_
                refine am_sipush hC dX5_product_80 rfl ?_
                refine am_iload2 hC dX5_product_83 ?_
                refine am_imul hC dX5_product_84 ?_
                refine am_iload8 hC dX5_product_85 ?_
                refine am_iadd hC dX5_product_87 ?_
                refine am_iald hC dX5_product_88 g12 (by omega) (by omega) ?_
                rw [show (160 * (y : Int) + (j : Int)) = ((160 * y + j : Nat) : Int) by omega, Int.toNat_natCast, vy]
                refine am_i2l hC dX5_product_89 (by omega) ?_
                refine am_lmul hC dX5_product_90 ?_
                rw [epr]
                refine am_ladd hC dX5_product_91 ?_
                refine am_lload5 hC dX5_product_92 ?_
                refine am_ladd hC dX5_product_94 ?_
                refine am_lstore9 hC dX5_product_95 rfl ?_
                refine am_aload0 hC dX5_product_97 ?_
                refine am_getf hC dX5_product_98 fX5_13 g02 rfl ?_
                refine am_sipush hC dX5_product_101 rfl ?_
                refine am_iload3 hC dX5_product_104 ?_
                refine am_imul hC dX5_product_105 ?_
                refine am_iload4 hC dX5_product_106 ?_
                refine am_iadd hC dX5_product_108 ?_
                refine am_iload8 hC dX5_product_109 ?_
                refine am_iadd hC dX5_product_111 ?_
                refine am_lload9 hC dX5_product_112 ?_
                refine am_ldc2 hC (32767) dX5_product_114 cX5_40 rfl ?_
                refine am_land hC 15 32768 dX5_product_117 (by decide) rfl rfl ?_
                refine am_l2i hC dX5_product_118 ?_
                rw [show (160 * (t : Int) + (i : Int) + (j : Int)) = ((160 * t + (i + j) : Nat) : Int) by omega]
                refine am_iast hC dX5_product_119 g12 (by omega) (by omega) ?_
                rw [Int.toNat_natCast, am_up_up]
                refine am_lload9 hC dX5_product_120 ?_
                refine am_bipush hC dX5_product_122 rfl ?_
                refine am_lshr hC 15 dX5_product_124 (by omega) rfl (by decide) ?_
                refine am_lstore5 hC dX5_product_125 rfl ?_
                refine am_iinc8 hC dX5_product_127 rfl ?_
                refine am_goto hC 39 dX5_product_130 rfl ?_
                rw [show (j : Int) + 1 = ((j + 1 : Nat) : Int) by omega]
                refine ih2 (j + 1) _ _ _ _ (by omega) (o2.fu (by omega)) (fun s hs => ?_) (fun s hs hs2 => ?_) (by rw [show i + (j + 1) = i + j + 1 by omega]; omega) (by omega)
                · by_cases e : s = i + j
                  · subst e; rw [am_fu_at]; omega
                  · rw [am_fu_lt (by omega)]; exact f1 s (by omega)
                · rw [am_fu_lt (by omega)]; exact f2 s (by omega) hs2
      refine am_iload4 hC dX5_product_9 ?_
      refine am_aload0 hC dX5_product_11 ?_
      refine am_getf hC dX5_product_12 fX5_9 g0 rfl ?_
      refine am_icmp_ge hC 139 dX5_product_15 rfl (by omega) (by omega) (fun c15 => ?_) (fun c15 => ?_)
      · exact absurd c15 (by omega)
      · refine am_lconst0 hC dX5_product_18 ?_
        refine am_lstore5 hC dX5_product_19 rfl ?_
        refine am_aload0 hC dX5_product_21 ?_
        refine am_getf hC dX5_product_22 fX5_13 g0 rfl ?_
        refine am_sipush hC dX5_product_25 rfl ?_
        refine am_iload1 hC dX5_product_28 ?_
        refine am_imul hC dX5_product_29 ?_
        refine am_iload4 hC dX5_product_30 ?_
        refine am_iadd hC dX5_product_32 ?_
        refine am_iald hC dX5_product_33 g1 (by omega) (by omega) ?_
        refine am_istore7 hC dX5_product_34 rfl ?_
        refine am_iconst hC dX5_product_36 ?_
        refine am_istore8 hC dX5_product_37 rfl ?_
        rw [show (160 * (x : Int) + (i : Int)) = ((160 * x + i : Nat) : Int) by omega, Int.toNat_natCast, vx]
        have M1 : ∀ s, s < i → pg N s = pg M s := fun s hs => by
          unfold pg hp
          rw [MN, show 32768 ^ i = 32768 ^ s * (32768 * 32768 ^ (i - s - 1)) by rw [← Nat.pow_succ', ← Nat.pow_add, show s + (i - s - 1 + 1) = i by omega], Nat.mul_left_comm (f * b), Nat.add_mul_div_left _ _ (Nat.pow_pos (by decide)), Nat.mul_left_comm (f * b), Nat.add_mul_mod_self_left]
        exact inner (m + 1) 0 R' 0 _ _ (by omega) o (fun s hs => by rw [hf s (by omega), M1 s (by omega)]) (fun s _ hs => hf s hs) (by rw [Nat.add_zero, hi0, hp_0]; omega) (by omega)
  refine am_aload0 hC dX5_product_0 ?_
  refine am_iload3 hC dX5_product_1 ?_
  refine am_lconst0 hC dX5_product_2 ?_
  refine am_V2_qN hC 5 dX5_product_3 kX5_36 (m_Mset (v := 0) _ _ w' ht) h0 rfl (Nat.le_of_ble_eq_true rfl) (by decide) (by omega) (by omega) (fun h1' r => ?_)
  obtain ⟨R1, rfl, r1, r2⟩ := r
  refine am_iconst hC dX5_product_6 ?_
  refine am_istore4 hC dX5_product_7 rfl ?_
  exact outer wd 0 R1 _ _ _ _ _ _ rfl (Nat.zero_add _) r2 (by rw [Nat.pow_zero, Nat.mod_one, Nat.zero_mul]; exact r1)

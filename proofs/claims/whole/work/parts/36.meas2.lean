/-! Measure.mix, commonDivisor -/
theorem cr_turn2 {Zi Xi Yi c x0 y0 X1 Y1 A B : Int} (hZ : Zi = A * Xi + B * Yi + c) (e1 : Xi = 2147483648 * X1 + x0) (e2 : Yi = 2147483648 * Y1 + y0) : Zi = 2147483648 * (A * X1 + B * Y1) + (A * x0 + B * y0 + c) := by
  have h1 : A * Xi = 2147483648 * (A * X1) + A * x0 := by rw [e1, Int.mul_add, Int.mul_left_comm]
  have h2 : B * Yi = 2147483648 * (B * Y1) + B * y0 := by rw [e2, Int.mul_add, Int.mul_left_comm]
  omega
theorem mr_bound {k d0 : Int} (hk : k.natAbs ≤ 2147483647) (hd : 0 ≤ d0 ∧ d0 ≤ 2147483647) : -4611686014132420609 ≤ k * d0 ∧ k * d0 ≤ 4611686014132420609 := by
  have h5 : (k * d0).natAbs ≤ 2147483647 * 2147483647 := by
    rw [Int.natAbs_mul]; exact Nat.mul_le_mul hk (by omega)
  omega
theorem m_mix (l : Launch) (g : am_G) {h : am_H} {mv a b X Y : Nat} {A B C D : Int} (h0 : h.2 mv = some (mO mv A B C D)) (wx : wN h (mv + 8) 56 a) (wy : wN h (mv + 10) 56 b) (hz : szn a ≤ 54) (hX : (X : Int) = A * a + B * b) (hY : (Y : Int) = C * a + D * b) (hA : A.natAbs ≤ 2147483647) (hB : B.natAbs ≤ 2147483647) (hC0 : C.natAbs ≤ 2147483647) (hD : D.natAbs ≤ 2147483647) (lX : X ≤ a) (lY : Y ≤ a) :
    am_Met l g yX2_mix (am_W1 yX2_mix cX2_mix 11 none) 3 0 0 [.ref mv] h (qN fun h1 => wN h1 (mv + 8) 56 X ∧ wN h1 (mv + 10) 56 Y ∧ only h h1 [mv + 8, mv + 9, mv + 10, mv + 11]) := by
  have wx0 := wx
  have wy0 := wy
  obtain ⟨-, -, hcx, fx, bx, rx⟩ := wx
  obtain ⟨-, -, hcy, fy, bY, ry⟩ := wy
  refine am_mk [some (.ref mv), none, none, none, none, none, none, none, none, none, none] 10 rfl rfl (by decide +kernel) (fun z hl hg hC hT _ => ?_)
  have loop : ∀ (m i : Nat) (H : am_H) (fk gk : Nat → Int) (c1 c2 : Int) (y7 y8 y9 y10 : Option Value) (n8 : am_n2 y8 = true), i + m = szn a → only h H [mv + 8, mv + 9, mv + 10, mv + 11] → wO H (mv + 8) (szn a) 56 fk → wO H (mv + 10) (szn b) 56 gk → c1 = (X : Int) / 2147483648 ^ i - A * sh a i - B * sh b i → c2 = (Y : Int) / 2147483648 ^ i - C * sh a i - D * sh b i → -4294967296 ≤ c1 ∧ c1 ≤ 4294967296 → -4294967296 ≤ c2 ∧ c2 ≤ 4294967296 → (∀ j, j < i → fk j = (dg X j : Int)) → (∀ j, i ≤ j → fk j = fx j) → (∀ j, j < i → gk j = (dg Y j : Int)) → (∀ j, i ≤ j → gk j = fy j) → am_W z 16 0 0 H [some (.ref mv), some (vI (szn a : Int)), some (vL c1), none, some (vL c2), none, some (vI (i : Int)), y7, y8, y9, y10] [] := by
    intro m
    induction m with
    | zero =>
      intro i H fk gk c1 c2 y7 y8 y9 y10 n8 hi o b1 b2 e1 e2 r1 r2 k1 k2 k3 k4
      have hm : H.2 mv = some (mO mv A B C D) := by rw [o.2 _ (by simp)]; exact h0
      have lt1 : X < 2147483648 ^ szn a := Nat.lt_of_le_of_lt lX (lt_pow_szn a)
      have lt2 : Y < 2147483648 ^ szn a := Nat.lt_of_le_of_lt lY (lt_pow_szn a)
      refine am_iload6 hC dX2_mix_16 ?_
      refine am_iload1 hC dX2_mix_18 ?_
      refine am_icmp_ge hC 129 dX2_mix_19 rfl (by omega) (by omega) (fun c19 => ?_) (fun c19 => ?_)
      · refine am_aload0 hC dX2_mix_129 ?_
        refine am_getf hC dX2_mix_130 fX2_21 hm rfl ?_
        refine am_iload1 hC dX2_mix_133 ?_
        rw [show H = am_up H (mv + 8 + 1) (eL 56 fk) from (am_up_self b1.2).symm]
        refine w_set l hC dX2_mix_134 kX2_107 b1 hcx (by omega) (r := X) (by rw [Int.toNat_natCast]; exact lt1) (fun j hj => k1 j (by omega)) (Nat.le_of_ble_eq_true rfl) (by decide) (Nat.le_refl _) (Nat.le_refl _) (fun h1 w1 o1 => ?_)
        have o1' : only h h1 [mv + 8, mv + 9, mv + 10, mv + 11] := o.tr (o1.wk (by simp))
        have hm1 : h1.2 mv = some (mO mv A B C D) := by rw [o1'.2 _ (by simp)]; exact h0
        have b21 : wO h1 (mv + 10) (szn b) 56 gk := ⟨by rw [o1.2 _ (by simp <;> omega)]; exact b2.1, by rw [o1.2 _ (by simp <;> omega)]; exact b2.2⟩
        refine am_aload0 hC dX2_mix_137 ?_
        refine am_getf hC dX2_mix_138 fX2_25 hm1 rfl ?_
        refine am_iload1 hC dX2_mix_141 ?_
        rw [show h1 = am_up h1 (mv + 10 + 1) (eL 56 gk) from (am_up_self b21.2).symm]
        refine w_set l hC dX2_mix_142 kX2_107 b21 hcy (by omega) (r := Y) (by rw [Int.toNat_natCast]; exact lt2) (fun j hj => k3 j (by omega)) (Nat.le_of_ble_eq_true rfl) (by decide) (Nat.le_refl _) (Nat.le_refl _) (fun h2 w2 o2 => ?_)
        exact am_vret hC hT dX2_mix_145 (Nat.le_refl _) (Nat.le_refl _) ⟨rfl, w1.kept o2 (by simp <;> omega) (by simp <;> omega), w2, o1'.tr (o2.wk (by simp))⟩
      · exact absurd c19 (by omega)
    | succ m ih =>
      intro i H fk gk c1 c2 y7 y8 y9 y10 n8 hi o b1 b2 e1 e2 r1 r2 k1 k2 k3 k4
      have hm : H.2 mv = some (mO mv A B C D) := by rw [o.2 _ (by simp)]; exact h0
      have hnb := wy0.n
      have l1 : LV H (mv + 8) (i : Int) (dg a i : Int) := ⟨_, 56, fk, b1, by omega, hcx, by rw [if_pos (by omega), Int.toNat_natCast, k2 i (Nat.le_refl _)]; exact rx i (by omega)⟩
      have l2 : LV H (mv + 10) (i : Int) (dg b i : Int) := by
        refine ⟨_, 56, gk, b2, by omega, hcy, ?_⟩
        by_cases q : i < szn b
        · rw [if_pos (by have := wy0.2.1; omega), Int.toNat_natCast, k4 i (Nat.le_refl _)]; exact ry i q
        · rw [if_neg (by omega), dg_out (by omega)]; rfl
      have d1 := dg_lt a i
      have d2 := dg_lt b i
      have s1 := sh_dg a i
      have s2 := sh_dg b i
      have z1 := izs (X : Int) i
      have z2 := izs (Y : Int) i
      have t1 := cr_turn2 (Zi := (X : Int) / 2147483648 ^ i) (Xi := (sh a i : Int)) (Yi := (sh b i : Int)) (c := c1) (x0 := (dg a i : Int)) (y0 := (dg b i : Int)) (X1 := (sh a (i + 1) : Int)) (Y1 := (sh b (i + 1) : Int)) (A := A) (B := B) (by omega) (by omega) (by omega)
      have t2 := cr_turn2 (Zi := (Y : Int) / 2147483648 ^ i) (Xi := (sh a i : Int)) (Yi := (sh b i : Int)) (c := c2) (x0 := (dg a i : Int)) (y0 := (dg b i : Int)) (X1 := (sh a (i + 1) : Int)) (Y1 := (sh b (i + 1) : Int)) (A := C) (B := D) (by omega) (by omega) (by omega)
      have p1 := mr_bound (d0 := (dg a i : Int)) hA (by omega)
      have p2 := mr_bound (d0 := (dg b i : Int)) hB (by omega)
      have p3 := mr_bound (d0 := (dg a i : Int)) hC0 (by omega)
      have p4 := mr_bound (d0 := (dg b i : Int)) hD (by omega)
      have i1 : (dg X i : Int) = (c1 + (A * (dg a i : Int) + B * (dg b i : Int))) % 2147483648 := by
        rw [dg_i]; unfold izd; rw [t1]; omega
      have i2 : (dg Y i : Int) = (c2 + (C * (dg a i : Int) + D * (dg b i : Int))) % 2147483648 := by
        rw [dg_i]; unfold izd; rw [t2]; omega
      refine am_iload6 hC dX2_mix_16 ?_
      refine am_iload1 hC dX2_mix_18 ?_
      refine am_icmp_ge hC 129 dX2_mix_19 rfl (by omega) (by omega) (fun c19 => ?_) (fun c19 => ?_)
      · exact absurd c19 (by omega)
      · refine am_aload0 hC dX2_mix_22 ?_
        refine am_getf hC dX2_mix_23 fX2_21 hm rfl ?_
        refine am_iload6 hC dX2_mix_26 ?_
        refine r_limb hC dX2_mix_28 kX2_100 l1 (by omega) (Nat.le_of_ble_eq_true rfl) (by decide) (Nat.le_refl _) (Nat.le_refl _) ?_
        refine am_lstore7 hC dX2_mix_31 rfl ?_
        refine am_aload0 hC dX2_mix_33 ?_
        refine am_getf hC dX2_mix_34 fX2_25 hm rfl ?_
        refine am_iload6 hC dX2_mix_37 ?_
        refine r_limb hC dX2_mix_39 kX2_100 l2 (by omega) (Nat.le_of_ble_eq_true rfl) (by decide) (Nat.le_refl _) (Nat.le_refl _) ?_
        refine am_lstore9 hC dX2_mix_42 rfl ?_
        refine am_lload2 hC dX2_mix_44 ?_
        refine am_aload0 hC dX2_mix_45 ?_
        refine am_getf hC dX2_mix_46 fX2_74 hm rfl ?_
        refine am_lload7 hC dX2_mix_49 ?_
        refine am_lmul hC dX2_mix_51 ?_
        refine am_aload0 hC dX2_mix_52 ?_
        refine am_getf hC dX2_mix_53 fX2_78 hm rfl ?_
        refine am_lload9 hC dX2_mix_56 ?_
        refine am_lmul hC dX2_mix_58 ?_
        refine am_ladd hC dX2_mix_59 ?_
        refine am_ladd hC dX2_mix_60 ?_
        refine am_lstore2 hC dX2_mix_61 rfl ?_
        refine am_lload4 hC dX2_mix_62 ?_
        refine am_aload0 hC dX2_mix_64 ?_
        refine am_getf hC dX2_mix_65 fX2_81 hm rfl ?_
        refine am_lload7 hC dX2_mix_68 ?_
        refine am_lmul hC dX2_mix_70 ?_
        refine am_aload0 hC dX2_mix_71 ?_
        refine am_getf hC dX2_mix_72 fX2_84 hm rfl ?_
        refine am_lload9 hC dX2_mix_75 ?_
        refine am_lmul hC dX2_mix_77 ?_
        refine am_ladd hC dX2_mix_78 ?_
        refine am_ladd hC dX2_mix_79 ?_
        refine am_lstore4 hC dX2_mix_80 rfl ?_
        refine am_aload0 hC dX2_mix_82 ?_
        refine am_getf hC dX2_mix_83 fX2_21 hm rfl ?_
        refine am_iload6 hC dX2_mix_86 ?_
        refine am_lload2 hC dX2_mix_88 ?_
        refine am_ldc2 hC (2147483647) dX2_mix_89 cX2_87 rfl ?_
        refine am_land hC 31 2147483648 dX2_mix_92 (by decide) rfl rfl ?_
        refine r_setLimb hC dX2_mix_93 kX2_103 b1 hcx (by omega) (Nat.le_of_ble_eq_true rfl) (by decide) (Nat.le_refl _) (Nat.le_refl _) ?_
        rw [Int.toNat_natCast]
        obtain ⟨H1, hH1⟩ : ∃ H1, H1 = am_up H (mv + 8 + 1) (eL 56 (am_fu fk i ((c1 + (A * (dg a i : Int) + B * (dg b i : Int))) % 2147483648))) := ⟨_, rfl⟩
        rw [← hH1]
        have o1 : only H H1 [mv + 9] := by subst hH1; exact ⟨rfl, fun r hr => am_up_ne _ _ (fun e => hr (by simp [e]))⟩
        have b11 : wO H1 (mv + 8) (szn a) 56 (am_fu fk i ((c1 + (A * (dg a i : Int) + B * (dg b i : Int))) % 2147483648)) := by subst hH1; exact wC.up b1
        have b21 : wO H1 (mv + 10) (szn b) 56 gk := ⟨by rw [o1.2 _ (by simp)]; exact b2.1, by rw [o1.2 _ (by simp)]; exact b2.2⟩
        have hm1 : H1.2 mv = some (mO mv A B C D) := by rw [o1.2 _ (by simp)]; exact hm
        refine am_aload0 hC dX2_mix_96 ?_
        refine am_getf hC dX2_mix_97 fX2_25 hm1 rfl ?_
        refine am_iload6 hC dX2_mix_100 ?_
        refine am_lload4 hC dX2_mix_102 ?_
        refine am_ldc2 hC (2147483647) dX2_mix_104 cX2_87 rfl ?_
        refine am_land hC 31 2147483648 dX2_mix_107 (by decide) rfl rfl ?_
        refine r_setLimb hC dX2_mix_108 kX2_103 b21 hcy (by omega) (Nat.le_of_ble_eq_true rfl) (by decide) (Nat.le_refl _) (Nat.le_refl _) ?_
        rw [Int.toNat_natCast]
        have o2 : only H1 (am_up H1 (mv + 10 + 1) (eL 56 (am_fu gk i ((c2 + (C * (dg a i : Int) + D * (dg b i : Int))) % 2147483648)))) [mv + 11] := ⟨rfl, fun r hr => am_up_ne _ _ (fun e => hr (by simp [e]))⟩
        refine am_lload2 hC dX2_mix_111 ?_
        refine am_bipush hC dX2_mix_112 rfl ?_
        refine am_lshr hC 31 dX2_mix_114 (by omega) rfl (by decide) ?_
        refine am_lstore2 hC dX2_mix_115 rfl ?_
        refine am_lload4 hC dX2_mix_116 ?_
        refine am_bipush hC dX2_mix_118 rfl ?_
        refine am_lshr hC 31 dX2_mix_120 (by omega) rfl (by decide) ?_
        refine am_lstore4 hC dX2_mix_121 rfl ?_
        refine am_iinc6 hC dX2_mix_123 rfl ?_
        refine am_goto hC 16 dX2_mix_126 rfl ?_
        rw [show (i : Int) + 1 = ((i + 1 : Nat) : Int) by omega]
        refine ih (i + 1) _ _ _ _ _ _ _ _ _ rfl (by omega) ((o.tr (o1.wk (by simp))).tr (o2.wk (by simp))) ⟨by rw [o2.2 _ (by simp)]; exact b11.1, by rw [o2.2 _ (by simp)]; exact b11.2⟩ (wC.up b21) (by rw [z1, t1]; omega) (by rw [z2, t2]; omega) (by omega) (by omega) (fun j hj => ?_) (fun j hj => by rw [am_fu_lt (by omega)]; exact k2 j (by omega)) (fun j hj => ?_) (fun j hj => by rw [am_fu_lt (by omega)]; exact k4 j (by omega))
        · by_cases e : j = i
          · subst e; rw [am_fu_at, i1]
          · rw [am_fu_lt e]; exact k1 j (by omega)
        · by_cases e : j = i
          · subst e; rw [am_fu_at, i2]
          · rw [am_fu_lt e]; exact k3 j (by omega)
  have h8 := wx0.o
  refine am_aload0 hC dX2_mix_0 ?_
  refine am_getf hC dX2_mix_1 fX2_21 h0 rfl ?_
  refine am_getf hC dX2_mix_4 fX2_96 h8 rfl ?_
  refine am_istore1 hC dX2_mix_7 rfl ?_
  refine am_lconst0 hC dX2_mix_8 ?_
  refine am_lstore2 hC dX2_mix_9 rfl ?_
  refine am_lconst0 hC dX2_mix_10 ?_
  refine am_lstore4 hC dX2_mix_11 rfl ?_
  refine am_iconst hC dX2_mix_13 ?_
  refine am_istore6 hC dX2_mix_14 rfl ?_
  exact loop _ 0 h fx fy 0 0 _ _ _ _ rfl (Nat.zero_add _) (only.rf _ _) bx bY (by rw [sh_0, sh_0, Int.pow_zero, Int.ediv_one, hX]; omega) (by rw [sh_0, sh_0, Int.pow_zero, Int.ediv_one, hY]; omega) (by omega) (by omega) (fun j hj => by omega) (fun j _ => rfl) (fun j hj => by omega) (fun j _ => rfl)
def wM (h : am_H) (mv : Nat) : Prop := (∃ A B C D : Int, h.2 mv = some (mO mv A B C D)) ∧ wD h (mv + 1) ∧ wC h (mv + 8) 56 ∧ wC h (mv + 10) 56
theorem m_commonDivisor (l : Launch) (g : am_G) {h : am_H} {mv i j ci cj a b : Nat} (wm : wM h mv) (wi : wN h i ci a) (wj : wN h j cj b) (sa : szn a ≤ 54) (sb : szn b ≤ 54) (qi : i + 1 < mv ∨ mv + 11 < i) (qj : j + 1 < mv ∨ mv + 11 < j) :
    am_Met l g yX2_commonDivisor (am_W1 yX2_commonDivisor cX2_commonDivisor 5 (some (.object "KerfFractions$Whole"))) 5 0 0 [.ref mv, .ref i, .ref j] h (qA fun r h1 => r = mv + 8 ∧ wM h1 mv ∧ wN h1 (mv + 8) 56 (Nat.gcd a b) ∧ only h h1 (mS mv)) := by
  obtain ⟨⟨A0, B0, C0, D0, hm0⟩, wd, wx, wy⟩ := wm
  have ni := wi.o
  refine am_mk [some (.ref mv), some (.ref i), some (.ref j), none, none] 2 rfl rfl (by decide +kernel) (fun z hl hg hC hT _ => ?_)
  have loop : ∀ (m st : Nat) (H : am_H) (p q : Nat) (t3 : Int), st + m = 10000 → (∃ A B C D : Int, H.2 mv = some (mO mv A B C D)) → wD H (mv + 1) → wN H (mv + 8) 56 p → wN H (mv + 10) 56 q → only h H (mS mv) → q ≤ p → szn p ≤ 54 → Nat.gcd p q = Nat.gcd a b → p * q < 2 ^ m → am_W z 49 0 0 H [some (.ref mv), some (.ref i), some (.ref j), some (vI t3), some (vI (st : Int))] [] := by
    intro m
    induction m with
    | zero =>
      intro st H p q t3 hst hmm wd wx wy o hqp hz hgcd hlt
      obtain ⟨A, B, C, D, hm⟩ := hmm
      have q0 : q = 0 := by
        rcases Nat.eq_zero_or_pos q with c | c
        · exact c
        · have : 1 * 1 ≤ p * q := Nat.mul_le_mul (by omega) c
          omega
      subst q0
      rw [Nat.gcd_zero_right] at hgcd
      refine am_iload4 hC dX2_commonDivisor_49 ?_
      refine am_sipush hC dX2_commonDivisor_51 rfl ?_
      refine am_icmp_ge hC 146 dX2_commonDivisor_54 rfl (by omega) (by omega) (fun c54 => ?_) (fun c54 => ?_)
      · refine am_aload0 hC dX2_commonDivisor_146 ?_
        refine am_getf hC dX2_commonDivisor_147 fX2_21 hm rfl ?_
        exact am_aret hC hT dX2_commonDivisor_150 (Nat.le_refl _) (Nat.le_refl _) ⟨_, rfl, rfl, ⟨⟨A, B, C, D, hm⟩, wd, wx.cc, wy.cc⟩, by rw [← hgcd]; exact wx, o⟩
      · exact absurd c54 (by omega)
    | succ m ih =>
      intro st H p q t3 hst hmm wd wx wy o hqp hz hgcd hlt
      obtain ⟨A, B, C, D, hm⟩ := hmm
      have zq : szn q ≤ 54 := Nat.le_trans (szn_mono hqp) hz
      have zr : szn (p % q) ≤ 56 := Nat.le_trans (szn_mono (Nat.mod_le p q)) (Nat.le_trans hz (by decide))
      have hbp : bl p ≤ 1674 := by have := szn_bl p; omega
      have next : ∀ (H1 : am_H) (p' q' : Nat), Eu p q p' q' → (∃ A B C D : Int, H1.2 mv = some (mO mv A B C D)) → wD H1 (mv + 1) → wN H1 (mv + 8) 56 p' → wN H1 (mv + 10) 56 q' → only h H1 (mS mv) → am_W z 140 0 0 H1 [some (.ref mv), some (.ref i), some (.ref j), some (vI t3), some (vI (st : Int))] [] := by
        intro H1 p' q' he k1 k2 k3 k4 k5
        have hn3 : p' * q' < 2 ^ m := by have := he.2.2.1; rw [Nat.pow_succ] at hlt; omega
        refine am_iinc4 hC dX2_commonDivisor_140 rfl ?_
        refine am_goto hC 49 dX2_commonDivisor_143 rfl ?_
        rw [show (st : Int) + 1 = ((st + 1 : Nat) : Int) by omega]
        exact ih (st + 1) H1 p' q' t3 (by omega) k1 k2 k3 k4 k5 he.2.1 (Nat.le_trans (szn_mono he.2.2.2) hz) (he.1.trans hgcd) hn3
      by_cases q0 : q = 0
      · subst q0
        rw [Nat.gcd_zero_right] at hgcd
        refine am_iload4 hC dX2_commonDivisor_49 ?_
        refine am_sipush hC dX2_commonDivisor_51 rfl ?_
        refine am_icmp_ge hC 146 dX2_commonDivisor_54 rfl (by omega) (by omega) (fun c54 => ?_) (fun c54 => ?_)
        · exact absurd c54 (by omega)
        · refine am_aload0 hC dX2_commonDivisor_57 ?_
          refine am_getf hC dX2_commonDivisor_58 fX2_25 hm rfl ?_
          refine am_V0_pI hC 3 dX2_commonDivisor_61 kX2_36 (m_isZero _ _ wy rfl) wy.o rfl (Nat.le_of_ble_eq_true rfl) (by decide) (Nat.le_refl _) (Nat.le_refl _) ?_
          rw [if_pos rfl]
          refine am_if_ne hC 146 dX2_commonDivisor_64 rfl (by omega) (fun c64 => ?_) (fun c64 => ?_)
          · refine am_aload0 hC dX2_commonDivisor_146 ?_
            refine am_getf hC dX2_commonDivisor_147 fX2_21 hm rfl ?_
            exact am_aret hC hT dX2_commonDivisor_150 (Nat.le_refl _) (Nat.le_refl _) ⟨_, rfl, rfl, ⟨⟨A, B, C, D, hm⟩, wd, wx.cc, wy.cc⟩, by rw [← hgcd]; exact wx, o⟩
          · exact absurd c64 (by omega)
      · have hq0 : 0 < q := Nat.pos_of_ne_zero q0
        have osm : ∀ {H1 : am_H}, only H H1 [mv + 8, mv + 9, mv + 10, mv + 11] → only h H1 (mS mv) := fun o1 => o.tr (o1.wk (by simp <;> omega))
        have wdk : ∀ {H1 : am_H}, only H H1 [mv + 8, mv + 9, mv + 10, mv + 11] → wD H1 (mv + 1) := fun o1 => wd.kept o1 (by intro t h1 h2; simp; omega)
        refine am_iload4 hC dX2_commonDivisor_49 ?_
        refine am_sipush hC dX2_commonDivisor_51 rfl ?_
        refine am_icmp_ge hC 146 dX2_commonDivisor_54 rfl (by omega) (by omega) (fun c54 => ?_) (fun c54 => ?_)
        · exact absurd c54 (by omega)
        · refine am_aload0 hC dX2_commonDivisor_57 ?_
          refine am_getf hC dX2_commonDivisor_58 fX2_25 hm rfl ?_
          refine am_V0_pI hC 3 dX2_commonDivisor_61 kX2_36 (m_isZero _ _ wy rfl) wy.o rfl (Nat.le_of_ble_eq_true rfl) (by decide) (Nat.le_refl _) (Nat.le_refl _) ?_
          rw [if_neg q0]
          refine am_if_ne hC 146 dX2_commonDivisor_64 rfl (by omega) (fun c64 => ?_) (fun c64 => ?_)
          · exact absurd c64 (by omega)
          · refine am_aload0 hC dX2_commonDivisor_67 ?_
            refine am_getf hC dX2_commonDivisor_68 fX2_21 hm rfl ?_
            refine am_V0_pI hC 3 dX2_commonDivisor_71 kX2_40 (m_width _ _ wx) wx.o rfl (Nat.le_of_ble_eq_true rfl) (by decide) (Nat.le_refl _) (Nat.le_refl _) ?_
            refine am_bipush hC dX2_commonDivisor_74 rfl ?_
            refine am_icmp_gt hC 86 dX2_commonDivisor_76 rfl (by omega) (by omega) (fun c76 => ?_) (fun c76 => ?_)
            · refine am_aload0 hC dX2_commonDivisor_86 ?_
              refine am_V0_qI hC 2 dX2_commonDivisor_87 kX2_47 (m_foresee _ _ hm wx wy hqp (by omega) hz) hm rfl (Nat.le_of_ble_eq_true rfl) (by decide) (Nat.le_refl _) (Nat.le_refl _) (fun v H1 r => ?_)
              obtain ⟨v01, A1, B1, C1, D1, rfl, hv⟩ := r
              have o1 : only H (am_up H mv (mO mv A1 B1 C1 D1)) [mv] := ⟨rfl, fun t ht => am_up_ne _ _ (fun e => ht (by simp [e]))⟩
              have hm1 : (am_up H mv (mO mv A1 B1 C1 D1)).2 mv = some (mO mv A1 B1 C1 D1) := am_up_at _ _ _
              have wx1 := wx.kept o1 (by simp <;> omega) (by simp <;> omega)
              have wy1 := wy.kept o1 (by simp <;> omega) (by simp <;> omega)
              have wd1 := wd.kept o1 (by intro t h1 h2; simp; omega)
              have o1' : only h (am_up H mv (mO mv A1 B1 C1 D1)) (mS mv) := o.tr (o1.wk (by simp <;> omega))
              refine am_if_eq hC 100 dX2_commonDivisor_90 rfl (by omega) (fun c90 => ?_) (fun c90 => ?_)
              · refine am_aload0 hC dX2_commonDivisor_100 ?_
                refine am_getf hC dX2_commonDivisor_101 fX2_12 hm1 rfl ?_
                refine am_aload0 hC dX2_commonDivisor_104 ?_
                refine am_getf hC dX2_commonDivisor_105 fX2_21 hm1 rfl ?_
                refine am_aload0 hC dX2_commonDivisor_108 ?_
                refine am_getf hC dX2_commonDivisor_109 fX2_25 hm1 rfl ?_
                refine am_V2_qN hC 0 dX2_commonDivisor_112 kX2_53 (m_divide _ _ wd1 wx1 wy1 q0 hz zq (by omega) (by omega) (by omega) (by omega) (by omega) (by omega)) wd1.1 rfl (Nat.le_of_ble_eq_true rfl) (by decide) (Nat.le_refl _) (Nat.le_refl _) (fun H2 r => ?_)
                obtain ⟨wd2, wq2, wr2, o2⟩ := r
                have hm2 : H2.2 mv = some (mO mv A1 B1 C1 D1) := by rw [o2.2 _ (by simp <;> omega)]; exact hm1
                have wx2 := wx1.kept o2 (by simp <;> omega) (by simp <;> omega)
                have wy2 := wy1.kept o2 (by simp <;> omega) (by simp <;> omega)
                have o2' : only h H2 (mS mv) := o1'.tr (o2.wk (by simp <;> omega))
                refine am_aload0 hC dX2_commonDivisor_115 ?_
                refine am_getf hC dX2_commonDivisor_116 fX2_21 hm2 rfl ?_
                refine am_aload0 hC dX2_commonDivisor_119 ?_
                refine am_getf hC dX2_commonDivisor_120 fX2_25 hm2 rfl ?_
                refine am_V1_qN hC 3 dX2_commonDivisor_123 kX2_32 (m_become _ _ wx2.cc wy2 (by omega)) wx2.o rfl (Nat.le_of_ble_eq_true rfl) (by decide) (Nat.le_refl _) (Nat.le_refl _) (fun H3 r => ?_)
                obtain ⟨w3, o3⟩ := r
                have hm3 : H3.2 mv = some (mO mv A1 B1 C1 D1) := by rw [o3.2 _ (by simp <;> omega)]; exact hm2
                have wd3 := wd2.kept o3 (by intro t h1 h2; simp; omega)
                have hd3 := wd3.1
                have wy3 := wy2.kept o3 (by simp <;> omega) (by simp <;> omega)
                have wr3 := wr2.kept o3 (by simp <;> omega) (by simp <;> omega)
                have o3' : only h H3 (mS mv) := o2'.tr (o3.wk (by simp <;> omega))
                refine am_aload0 hC dX2_commonDivisor_126 ?_
                refine am_getf hC dX2_commonDivisor_127 fX2_25 hm3 rfl ?_
                refine am_aload0 hC dX2_commonDivisor_130 ?_
                refine am_getf hC dX2_commonDivisor_131 fX2_12 hm3 rfl ?_
                refine am_getf hC dX2_commonDivisor_134 fX2_57 hd3 rfl ?_
                refine am_V1_qN hC 3 dX2_commonDivisor_137 kX2_32 (m_become _ _ wy3.cc wr3 zr) wy3.o rfl (Nat.le_of_ble_eq_true rfl) (by decide) (Nat.le_refl _) (Nat.le_refl _) (fun H4 r => ?_)
                obtain ⟨w4, o4'⟩ := r
                have hm4 : H4.2 mv = some (mO mv A1 B1 C1 D1) := by rw [o4'.2 _ (by simp <;> omega)]; exact hm3
                have wd4 := wd3.kept o4' (by intro t h1 h2; simp; omega)
                have w3' := w3.kept o4' (by simp <;> omega) (by simp <;> omega)
                have o4 : only h H4 (mS mv) := o3'.tr (o4'.wk (by simp <;> omega))
                first
                  | exact next _ p' q' he ⟨A, B, C, D, by rw [o1.2 _ (by simp <;> omega)]; exact hm⟩ (wdk o1) w1 w2 (osm o1)
                  | exact next _ p' q' he ⟨A1, B1, C1, D1, hm2⟩ wd2 w1 w2 o2'
                  | exact next _ q (p % q) (Eu.step hq0 hqp) ⟨A1, B1, C1, D1, hm4⟩ wd4 w3' w4 o4
              · refine am_aload0 hC dX2_commonDivisor_93 ?_
                obtain ⟨p', q', e1, e2, he, b1, b2, b3, b4⟩ := hv (by omega)
                refine am_V0_qN hC 2 dX2_commonDivisor_94 kX2_50 (m_mix _ _ hm1 wx1 wy1 hz e1 e2 b1 b2 b3 b4 he.2.2.2 (Nat.le_trans he.2.1 he.2.2.2)) hm1 rfl (Nat.le_of_ble_eq_true rfl) (by decide) (Nat.le_refl _) (Nat.le_refl _) (fun H2 r => ?_)
                obtain ⟨w1, w2, o2⟩ := r
                have hm2 : H2.2 mv = some (mO mv A1 B1 C1 D1) := by rw [o2.2 _ (by simp <;> omega)]; exact hm1
                have wd2 := wd1.kept o2 (by intro t h1 h2; simp; omega)
                have o2' : only h H2 (mS mv) := o1'.tr (o2.wk (by simp <;> omega))
                refine am_goto hC 140 dX2_commonDivisor_97 rfl ?_
                first
                  | exact next _ p' q' he ⟨A, B, C, D, by rw [o1.2 _ (by simp <;> omega)]; exact hm⟩ (wdk o1) w1 w2 (osm o1)
                  | exact next _ p' q' he ⟨A1, B1, C1, D1, hm2⟩ wd2 w1 w2 o2'
                  | exact next _ q (p % q) (Eu.step hq0 hqp) ⟨A1, B1, C1, D1, hm4⟩ wd4 w3' w4 o4
            · refine am_aload0 hC dX2_commonDivisor_79 ?_
              refine am_V0_qN hC 2 dX2_commonDivisor_80 kX2_44 (m_finish _ _ hm wx wy hq0 hqp (bl_le.mp (by omega))) hm rfl (Nat.le_of_ble_eq_true rfl) (by decide) (Nat.le_refl _) (Nat.le_refl _) (fun H1 r => ?_)
              obtain ⟨⟨p', q', he, w1, w2⟩, o1⟩ := r
              refine am_goto hC 140 dX2_commonDivisor_83 rfl ?_
              first
                | exact next _ p' q' he ⟨A, B, C, D, by rw [o1.2 _ (by simp <;> omega)]; exact hm⟩ (wdk o1) w1 w2 (osm o1)
                | exact next _ p' q' he ⟨A1, B1, C1, D1, hm2⟩ wd2 w1 w2 o2'
                | exact next _ q (p % q) (Eu.step hq0 hqp) ⟨A1, B1, C1, D1, hm4⟩ wd4 w3' w4 o4
  have hmn : ∀ (H : am_H) (a' b' : Nat) (t3 : Int), wM H mv → wN H (mv + 8) 56 a' → wN H (mv + 10) 56 b' → only h H (mS mv) → b' ≤ a' → szn a' ≤ 54 → szn b' ≤ 54 → Nat.gcd a' b' = Nat.gcd a b → am_W z 49 0 0 H [some (.ref mv), some (.ref i), some (.ref j), some (vI t3), some (vI 0)] [] := by
    intro H a' b' t3 w1 w2 w3 o1 hle s1 s2 hg
    refine loop 10000 0 H a' b' t3 rfl w1.1 w1.2.1 w2 w3 o1 hle s1 hg ?_
    have l1 := lt_pow_szn a'
    have l2 := lt_pow_szn b'
    have p1 : a' < 2 ^ 1674 := bl_le.mp (by have := szn_bl a'; omega)
    have p2 : b' < 2 ^ 1674 := bl_le.mp (by have := szn_bl b'; omega)
    calc a' * b' ≤ 2 ^ 1674 * 2 ^ 1674 := Nat.mul_le_mul (by omega) (by omega)
      _ = 2 ^ 3348 := by rw [← Nat.pow_add]
      _ < 2 ^ 10000 := Nat.pow_lt_pow_right (by decide) (by decide)
  have ⟨n0, hx0⟩ := wx.o
  by_cases hab : b ≤ a
  · refine am_aload1 hC dX2_commonDivisor_0 ?_
    refine am_aload2 hC dX2_commonDivisor_1 ?_
    have cm : cmpN a b = 0 ∨ cmpN a b = 1 := by unfold cmpN; split <;> (try split) <;> omega
    refine am_V1_pI hC 3 dX2_commonDivisor_2 kX2_28 (m_compareWith _ _ wi wj) wi.o rfl (Nat.le_of_ble_eq_true rfl) (by decide) (Nat.le_refl _) (Nat.le_refl _) ?_
    refine am_if_lt hC 12 dX2_commonDivisor_5 rfl (by omega) (fun c5 => ?_) (fun c5 => ?_)
    · exact absurd c5 (by omega)
    · refine am_iconst hC dX2_commonDivisor_8 ?_
      refine am_goto hC 13 dX2_commonDivisor_9 rfl ?_
      refine am_istore3 hC dX2_commonDivisor_13 rfl ?_
      refine am_aload0 hC dX2_commonDivisor_14 ?_
      refine am_getf hC dX2_commonDivisor_15 fX2_21 hm0 rfl ?_
      refine am_iload3 hC dX2_commonDivisor_18 ?_
      refine am_if_eq hC 26 dX2_commonDivisor_19 rfl (by omega) (fun c19 => ?_) (fun c19 => ?_)
      · exact absurd c19 (by decide)
      · refine am_aload1 hC dX2_commonDivisor_22 ?_
        refine am_goto hC 27 dX2_commonDivisor_23 rfl ?_
        refine am_V1_qN hC 3 dX2_commonDivisor_27 kX2_32 (m_become _ _ wx wi (by omega)) hx0 rfl (Nat.le_of_ble_eq_true rfl) (by decide) (Nat.le_refl _) (Nat.le_refl _) (fun H1 r => ?_)
        obtain ⟨w1, o1⟩ := r
        have hm1 : H1.2 mv = some (mO mv A0 B0 C0 D0) := by rw [o1.2 _ (by simp <;> omega)]; exact hm0
        have wd1 := wd.kept o1 (by intro t h1 h2; simp; omega)
        have wy1 := wy.kept o1 (by simp <;> omega) (by simp <;> omega)
        have ⟨n1, hy0⟩ := wy1.o
        have wo1 := wj.kept o1 (by simp <;> omega) (by simp <;> omega)
        refine am_aload0 hC dX2_commonDivisor_30 ?_
        refine am_getf hC dX2_commonDivisor_31 fX2_25 hm1 rfl ?_
        refine am_iload3 hC dX2_commonDivisor_34 ?_
        refine am_if_eq hC 42 dX2_commonDivisor_35 rfl (by omega) (fun c35 => ?_) (fun c35 => ?_)
        · exact absurd c35 (by decide)
        · refine am_aload2 hC dX2_commonDivisor_38 ?_
          refine am_goto hC 43 dX2_commonDivisor_39 rfl ?_
          refine am_V1_qN hC 3 dX2_commonDivisor_43 kX2_32 (m_become _ _ wy1 wo1 (by omega)) hy0 rfl (Nat.le_of_ble_eq_true rfl) (by decide) (Nat.le_refl _) (Nat.le_refl _) (fun H2 r => ?_)
          obtain ⟨w2, o2⟩ := r
          refine am_iconst hC dX2_commonDivisor_46 ?_
          refine am_istore4 hC dX2_commonDivisor_47 rfl ?_
          refine hmn H2 a b _ ⟨⟨A0, B0, C0, D0, ?_⟩, wd1.kept o2 (by intro t h1 h2; simp; omega), w1.cc.kept o2 (by simp <;> omega) (by simp <;> omega), w2.cc⟩ (w1.kept o2 (by simp <;> omega) (by simp <;> omega)) w2 ((o1.wk (by simp)).tr (o2.wk (by simp))) (by omega) (by omega) (by omega) (rfl)
          rw [o2.2 _ (by simp <;> omega)]; exact hm1
  · refine am_aload1 hC dX2_commonDivisor_0 ?_
    refine am_aload2 hC dX2_commonDivisor_1 ?_
    have cm : cmpN a b = -1 := by unfold cmpN; split <;> (try split) <;> omega
    refine am_V1_pI hC 3 dX2_commonDivisor_2 kX2_28 (m_compareWith _ _ wi wj) wi.o rfl (Nat.le_of_ble_eq_true rfl) (by decide) (Nat.le_refl _) (Nat.le_refl _) ?_
    refine am_if_lt hC 12 dX2_commonDivisor_5 rfl (by omega) (fun c5 => ?_) (fun c5 => ?_)
    · refine am_iconst hC dX2_commonDivisor_12 ?_
      refine am_istore3 hC dX2_commonDivisor_13 rfl ?_
      refine am_aload0 hC dX2_commonDivisor_14 ?_
      refine am_getf hC dX2_commonDivisor_15 fX2_21 hm0 rfl ?_
      refine am_iload3 hC dX2_commonDivisor_18 ?_
      refine am_if_eq hC 26 dX2_commonDivisor_19 rfl (by omega) (fun c19 => ?_) (fun c19 => ?_)
      · refine am_aload2 hC dX2_commonDivisor_26 ?_
        refine am_V1_qN hC 3 dX2_commonDivisor_27 kX2_32 (m_become _ _ wx wj (by omega)) hx0 rfl (Nat.le_of_ble_eq_true rfl) (by decide) (Nat.le_refl _) (Nat.le_refl _) (fun H1 r => ?_)
        obtain ⟨w1, o1⟩ := r
        have hm1 : H1.2 mv = some (mO mv A0 B0 C0 D0) := by rw [o1.2 _ (by simp <;> omega)]; exact hm0
        have wd1 := wd.kept o1 (by intro t h1 h2; simp; omega)
        have wy1 := wy.kept o1 (by simp <;> omega) (by simp <;> omega)
        have ⟨n1, hy0⟩ := wy1.o
        have wo1 := wi.kept o1 (by simp <;> omega) (by simp <;> omega)
        refine am_aload0 hC dX2_commonDivisor_30 ?_
        refine am_getf hC dX2_commonDivisor_31 fX2_25 hm1 rfl ?_
        refine am_iload3 hC dX2_commonDivisor_34 ?_
        refine am_if_eq hC 42 dX2_commonDivisor_35 rfl (by omega) (fun c35 => ?_) (fun c35 => ?_)
        · refine am_aload1 hC dX2_commonDivisor_42 ?_
          refine am_V1_qN hC 3 dX2_commonDivisor_43 kX2_32 (m_become _ _ wy1 wo1 (by omega)) hy0 rfl (Nat.le_of_ble_eq_true rfl) (by decide) (Nat.le_refl _) (Nat.le_refl _) (fun H2 r => ?_)
          obtain ⟨w2, o2⟩ := r
          refine am_iconst hC dX2_commonDivisor_46 ?_
          refine am_istore4 hC dX2_commonDivisor_47 rfl ?_
          refine hmn H2 b a _ ⟨⟨A0, B0, C0, D0, ?_⟩, wd1.kept o2 (by intro t h1 h2; simp; omega), w1.cc.kept o2 (by simp <;> omega) (by simp <;> omega), w2.cc⟩ (w1.kept o2 (by simp <;> omega) (by simp <;> omega)) w2 ((o1.wk (by simp)).tr (o2.wk (by simp))) (by omega) (by omega) (by omega) (Nat.gcd_comm _ _)
          rw [o2.2 _ (by simp <;> omega)]; exact hm1
        · exact absurd c35 (by decide)
      · exact absurd c19 (by decide)
    · exact absurd c5 (by omega)

/-! Divider: by hand, limb by limb -/
def izd (z : Int) (i : Nat) : Int := z / 2147483648 ^ i % 2147483648
theorem pBi (n : Nat) : (0 : Int) < 2147483648 ^ n := Int.pow_pos (by decide)
theorem pBc (n : Nat) : ((2147483648 ^ n : Nat) : Int) = 2147483648 ^ n := by rw [Int.natCast_pow]; rfl
theorem izs (z : Int) (i : Nat) : z / 2147483648 ^ (i + 1) = z / 2147483648 ^ i / 2147483648 := by
  rw [Int.pow_succ, Int.ediv_ediv_of_nonneg (Int.le_of_lt (pBi i))]
theorem sh_i (a i : Nat) : ((sh a i : Nat) : Int) = (a : Int) / 2147483648 ^ i := by
  unfold sh; rw [Int.natCast_ediv, pBc]
theorem dg_i (a i : Nat) : ((dg a i : Nat) : Int) = izd a i := by
  unfold dg izd; rw [Int.natCast_emod, sh_i]; rfl
/-- limbs below n don't see what stands from n on -/
theorem izd_add (z y : Int) {n i : Nat} (h : i < n) : izd (z + y * 2147483648 ^ n) i = izd z i := by
  unfold izd
  obtain ⟨m, rfl⟩ : ∃ m, n = i + 1 + m := ⟨n - i - 1, by omega⟩
  have e : y * (2147483648 : Int) ^ (i + 1 + m) = 2147483648 ^ i * (2147483648 * (y * 2147483648 ^ m)) := by
    rw [Int.pow_add, Int.pow_succ]
    simp only [Int.mul_assoc, Int.mul_comm, Int.mul_left_comm]
  rw [e, Int.add_mul_ediv_left _ _ (Int.ne_of_gt (pBi i)), Int.add_mul_emod_self_left]
/-- one limb's turn of a sum T + k D -/
theorem cr_turn {Zi Ti Di c t0 d0 T1 D1 k : Int} (hZ : Zi = Ti + k * Di + c) (e1 : Ti = 2147483648 * T1 + t0) (e2 : Di = 2147483648 * D1 + d0) : Zi = 2147483648 * (T1 + k * D1) + (t0 + k * d0 + c) := by
  have h1 : k * Di = 2147483648 * (k * D1) + k * d0 := by rw [e2, Int.mul_add, Int.mul_left_comm]
  omega
theorem cr_bound {k d0 : Int} (hk : -2147483648 ≤ k ∧ k ≤ 2147483648) (hd : 0 ≤ d0 ∧ d0 ≤ 2147483647) : -4611686016279904256 ≤ k * d0 ∧ k * d0 ≤ 4611686016279904256 := by
  have h1 : -(2147483648 * d0) ≤ k * d0 := by
    have := Int.mul_le_mul_of_nonneg_right hk.1 hd.1
    omega
  have h2 : k * d0 ≤ 2147483648 * d0 := Int.mul_le_mul_of_nonneg_right hk.2 hd.1
  omega
theorem m_changeRest (l : Launch) (g : am_G) {h : am_H} {dv cd c N D T at0 : Nat} {k : Int} {f : Nat → Int} {q9 : Value} (hd0 : h.2 dv = some (eO 0 [q9, .ref (dv + 3), .ref (dv + 5)])) (wd : wN h (dv + 5) cd D) (b : wO h (dv + 3) N c f) (hcc : c ≤ 100000) (hN : N ≤ c) (hat : at0 + szn D ≤ N) (hf : ∀ i, i < szn D → f (at0 + i) = (dg T i : Int)) (ht : (if at0 + szn D < N then f (at0 + szn D) else 0) = (dg T (szn D) : Int)) (hTT : T < 2147483648 ^ (szn D + 1)) (hk : -2147483648 ≤ k ∧ k ≤ 2147483648) :
    am_Met l g yX0_changeRest (am_W1 yX0_changeRest cX0_changeRest 7 (some .long)) 2 0 0 [.ref dv, vI (at0 : Int), vL k] h (qL fun v h1 => v = ((T : Int) + k * D) / 2147483648 ^ szn D ∧ ∃ f' : Nat → Int, h1 = am_up h (dv + 3 + 1) (eL c f') ∧ (∀ i, i < szn D → f' (at0 + i) = izd ((T : Int) + k * D) i) ∧ ∀ j, (j < at0 ∨ at0 + szn D ≤ j) → f' j = f j) := by
  have h0d := wd.o
  have hnd := wd.n
  obtain ⟨Z, hZ⟩ : ∃ Z, Z = (T : Int) + k * D := ⟨_, rfl⟩
  rw [← hZ]
  refine am_mk [some (.ref dv), some (vI (at0 : Int)), some (vL k), none, none, none, none] 3 rfl rfl (by decide +kernel) (fun y hl hg hC hT _ => ?_)
  have hd3 : dv ≠ dv + 3 + 1 := by omega
  have oo : ∀ f : Nat → Int, only h (am_up h (dv + 3 + 1) (eL c f)) [dv + 3 + 1] := fun f => ⟨rfl, fun r hr => am_up_ne _ _ (fun e => hr (by simp [e]))⟩
  have wdo : ∀ f : Nat → Int, wN (am_up h (dv + 3 + 1) (eL c f)) (dv + 5) cd D := fun f => wd.kept (oo f) (by simp) (by simp)
  have loop : ∀ (m i : Nat) (fk : Nat → Int) (cr : Int), i + m = szn D → cr = Z / 2147483648 ^ i - sh T i - k * sh D i → -2147483648 ≤ cr ∧ cr ≤ 2147483648 → (∀ j, j < i → fk (at0 + j) = izd Z j) → (∀ j, (j < at0 ∨ at0 + i ≤ j) → fk j = f j) → am_W y 6 0 0 (am_up h (dv + 3 + 1) (eL c fk)) [some (.ref dv), some (vI (at0 : Int)), some (vL k), none, some (vL cr), none, some (vI (i : Int))] [] := by
    intro m
    induction m with
    | zero =>
      intro i fk cr hi hcr hcr2 h1 h2
      have e : i = szn D := by omega
      subst e
      have h0 := (oo fk).2 dv (by simp; omega)
      rw [hd0] at h0
      have h5 := (wdo fk).o
      have lt : LV (am_up h (dv + 3 + 1) (eL c fk)) (dv + 3) ((at0 + szn D : Nat) : Int) (dg T (szn D) : Int) := by
        refine ⟨_, c, fk, wC.up b, by omega, hcc, ?_⟩
        rw [← ht]
        by_cases q : at0 + szn D < N
        · rw [if_pos (by omega), if_pos q, Int.toNat_natCast]; exact h2 _ (Or.inr (Nat.le_refl _))
        · rw [if_neg (by omega), if_neg q]
      have g1 := dg_lt T (szn D)
      have e1 := sh_dg T (szn D)
      have e2 : sh T (szn D + 1) = 0 := Nat.div_eq_of_lt hTT
      have e3 : sh D (szn D) = 0 := sh_out (Nat.le_refl _)
      rw [e3, show ((0 : Nat) : Int) = 0 from rfl, Int.mul_zero] at hcr
      refine am_iload6 hC dX0_changeRest_6 ?_
      refine am_aload0 hC dX0_changeRest_8 ?_
      refine am_getf hC dX0_changeRest_9 fX0_21 h0 rfl ?_
      refine am_getf hC dX0_changeRest_12 fX0_24 h5 rfl ?_
      refine am_icmp_ge hC 76 dX0_changeRest_15 rfl (by omega) (by omega) (fun c15 => ?_) (fun c15 => ?_)
      · refine am_lload4 hC dX0_changeRest_76 ?_
        refine am_aload0 hC dX0_changeRest_78 ?_
        refine am_getf hC dX0_changeRest_79 fX0_18 h0 rfl ?_
        refine am_iload1 hC dX0_changeRest_82 ?_
        refine am_aload0 hC dX0_changeRest_83 ?_
        refine am_getf hC dX0_changeRest_84 fX0_21 h0 rfl ?_
        refine am_getf hC dX0_changeRest_87 fX0_24 h5 rfl ?_
        refine am_iadd hC dX0_changeRest_90 ?_
        rw [show (at0 : Int) + (szn D : Int) = ((at0 + szn D : Nat) : Int) by omega]
        refine r_limb hC dX0_changeRest_91 kX0_32 lt (by omega) (Nat.le_of_ble_eq_true rfl) (by decide) (Nat.le_refl _) (Nat.le_refl _) ?_
        refine am_ladd hC dX0_changeRest_94 ?_
        exact am_lret hC hT dX0_changeRest_95 (Nat.le_refl _) (Nat.le_refl _) ⟨_, rfl, by omega, fk, rfl, h1, h2⟩
      · exact absurd c15 (by omega)
    | succ m ih =>
      intro i fk cr hi hcr hcr2 h1 h2
      have h0 := (oo fk).2 dv (by simp; omega)
      rw [hd0] at h0
      have h5 := (wdo fk).o
      have lr : LV (am_up h (dv + 3 + 1) (eL c fk)) (dv + 3) ((at0 + i : Nat) : Int) (dg T i : Int) := ⟨_, c, fk, wC.up b, by omega, hcc, by rw [if_pos (by omega), Int.toNat_natCast, h2 _ (Or.inr (Nat.le_refl _))]; exact hf i (by omega)⟩
      have g1 := dg_lt T i
      have g2 := dg_lt D i
      have e1 := sh_dg T i
      have e2 := sh_dg D i
      have e3 := izs Z i
      have kb := cr_bound (d0 := (dg D i : Int)) hk (by omega)
      have tt := cr_turn (Zi := Z / 2147483648 ^ i) (Ti := (sh T i : Int)) (Di := (sh D i : Int)) (c := cr) (t0 := (dg T i : Int)) (d0 := (dg D i : Int)) (T1 := (sh T (i + 1) : Int)) (D1 := (sh D (i + 1) : Int)) (k := k) (by omega) (by omega) (by omega)
      have iz : izd Z i = (cr + ((dg T i : Int) + k * (dg D i : Int))) % 2147483648 := by
        unfold izd; rw [tt]; omega
      refine am_iload6 hC dX0_changeRest_6 ?_
      refine am_aload0 hC dX0_changeRest_8 ?_
      refine am_getf hC dX0_changeRest_9 fX0_21 h0 rfl ?_
      refine am_getf hC dX0_changeRest_12 fX0_24 h5 rfl ?_
      refine am_icmp_ge hC 76 dX0_changeRest_15 rfl (by omega) (by omega) (fun c15 => ?_) (fun c15 => ?_)
      · exact absurd c15 (by omega)
      · refine am_lload4 hC dX0_changeRest_18 ?_
        refine am_aload0 hC dX0_changeRest_20 ?_
        refine am_getf hC dX0_changeRest_21 fX0_18 h0 rfl ?_
        refine am_iload1 hC dX0_changeRest_24 ?_
        refine am_iload6 hC dX0_changeRest_25 ?_
        refine am_iadd hC dX0_changeRest_27 ?_
        rw [show (at0 : Int) + (i : Int) = ((at0 + i : Nat) : Int) by omega]
        refine r_limb hC dX0_changeRest_28 kX0_32 lr (by omega) (Nat.le_of_ble_eq_true rfl) (by decide) (Nat.le_refl _) (Nat.le_refl _) ?_
        refine am_lload2 hC dX0_changeRest_31 ?_
        refine am_aload0 hC dX0_changeRest_32 ?_
        refine am_getf hC dX0_changeRest_33 fX0_21 h0 rfl ?_
        refine am_iload6 hC dX0_changeRest_36 ?_
        refine r_limb hC dX0_changeRest_38 kX0_32 ((wdo fk).lv i) (by omega) (Nat.le_of_ble_eq_true rfl) (by decide) (Nat.le_refl _) (Nat.le_refl _) ?_
        refine am_lmul hC dX0_changeRest_41 ?_
        refine am_ladd hC dX0_changeRest_42 ?_
        refine am_ladd hC dX0_changeRest_43 ?_
        refine am_lstore4 hC dX0_changeRest_44 rfl ?_
        refine am_aload0 hC dX0_changeRest_46 ?_
        refine am_getf hC dX0_changeRest_47 fX0_18 h0 rfl ?_
        refine am_iload1 hC dX0_changeRest_50 ?_
        refine am_iload6 hC dX0_changeRest_51 ?_
        refine am_iadd hC dX0_changeRest_53 ?_
        refine am_lload4 hC dX0_changeRest_54 ?_
        refine am_ldc2 hC (2147483647) dX0_changeRest_56 cX0_73 rfl ?_
        refine am_land hC 31 2147483648 dX0_changeRest_59 (by decide) rfl rfl ?_
        refine r_setLimb hC dX0_changeRest_60 kX0_66 (wC.up b) hcc (by omega) (Nat.le_of_ble_eq_true rfl) (by decide) (Nat.le_refl _) (Nat.le_refl _) ?_
        rw [am_up_up, show ((at0 : Int) + (i : Int)).toNat = at0 + i by omega]
        refine am_lload4 hC dX0_changeRest_63 ?_
        refine am_bipush hC dX0_changeRest_65 rfl ?_
        refine am_lshr hC 31 dX0_changeRest_67 (by omega) rfl (by decide) ?_
        refine am_lstore4 hC dX0_changeRest_68 rfl ?_
        refine am_iinc6 hC dX0_changeRest_70 rfl ?_
        refine am_goto hC 6 dX0_changeRest_73 rfl ?_
        refine ih (i + 1) _ _ (by omega) (by rw [e3, tt]; omega) (by omega) (fun j hj => ?_) (fun j hj => by rw [am_fu_lt (by omega)]; exact h2 j (by omega))
        by_cases e : j = i
        · subst e; rw [am_fu_at, iz]
        · rw [am_fu_lt (by omega)]; exact h1 j (by omega)
  refine am_lconst0 hC dX0_changeRest_0 ?_
  refine am_lstore4 hC dX0_changeRest_1 rfl ?_
  refine am_iconst hC dX0_changeRest_3 ?_
  refine am_istore6 hC dX0_changeRest_4 rfl ?_
  rw [show h = am_up h (dv + 3 + 1) (eL c f) from (am_up_self b.2).symm]
  exact loop _ 0 f 0 (Nat.zero_add _) (by rw [sh_0, sh_0, Int.pow_zero, Int.ediv_one, hZ]; omega) (by omega) (fun j hj => by omega) (fun j _ => rfl)

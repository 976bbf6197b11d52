/-! one limb of a quotient (Knuth, algorithm D) -/
/-- q: the guess is not too small; at most one too great: out of the highest limbs. two, u2: of T; vh, v2: of D; P: the weight of what is below -/
theorem kn_low {T D q two vh u2 v2 P Tl Dl : Nat} (hT : T = (two * 2147483648 + u2) * P + Tl) (hD : D = (vh * 2147483648 + v2) * P + Dl) (hu : u2 < 2147483648) (hTl : Tl < P) (hq : q * D ≤ T) : q * vh ≤ two := by
  rcases Nat.lt_or_ge two (q * vh) with c | c
  · exfalso
    have h1 : q * (vh * 2147483648 * P) ≤ q * D := Nat.mul_le_mul_left _ (by rw [hD, Nat.add_mul]; omega)
    have h2 : (two + 1) * (2147483648 * P) ≤ q * vh * (2147483648 * P) := Nat.mul_le_mul_right _ c
    have h3 : q * (vh * 2147483648 * P) = q * vh * (2147483648 * P) := by simp only [Nat.mul_assoc]
    have h4 : T < (two + 1) * (2147483648 * P) := by
      have h5 : (two * 2147483648 + u2) * P + P ≤ (two + 1) * (2147483648 * P) := by
        rw [← Nat.mul_assoc, ← Nat.succ_mul]
        exact Nat.mul_le_mul_right _ (by omega)
      omega
    omega
  · exact c
theorem kn_too {T D q two vh u2 v2 P Tl Dl qh rh : Nat} (hT : T = (two * 2147483648 + u2) * P + Tl) (hD : D = (vh * 2147483648 + v2) * P + Dl) (hTl : Tl < P) (hg : two = qh * vh + rh) (ht : rh * 2147483648 + u2 < qh * v2) (hq : q * D ≤ T) : q < qh := by
  rcases Nat.lt_or_ge q qh with c | c
  · exact c
  · exfalso
    have h1 : qh * D ≤ q * D := Nat.mul_le_mul_right _ c
    have h2 : qh * ((vh * 2147483648 + v2) * P) ≤ qh * D := Nat.mul_le_mul_left _ (by omega)
    have h3 : two * 2147483648 + u2 + 1 ≤ qh * (vh * 2147483648 + v2) := by
      rw [hg, Nat.mul_add qh, Nat.add_mul, ← Nat.mul_assoc qh]
      omega
    have h4 : (two * 2147483648 + u2 + 1) * P ≤ qh * (vh * 2147483648 + v2) * P := Nat.mul_le_mul_right _ h3
    rw [Nat.mul_assoc, Nat.succ_mul] at h4
    omega
theorem kn_high {T D q two vh u2 v2 P Tl Dl qh rh : Nat} (hT : T = (two * 2147483648 + u2) * P + Tl) (hD : D = (vh * 2147483648 + v2) * P + Dl) (hDl : Dl < P) (hv : 1 ≤ vh) (hg : two = qh * vh + rh) (ht : qh * v2 ≤ rh * 2147483648 + u2) (hqh : qh ≤ 2147483648) (hq : T < (q + 1) * D) : qh ≤ q + 1 := by
  rcases Nat.lt_or_ge (q + 1) qh with c | c
  · exfalso
    have h1 : qh * (vh * 2147483648 + v2) ≤ two * 2147483648 + u2 := by
      rw [hg, Nat.mul_add qh, Nat.add_mul, ← Nat.mul_assoc qh]
      omega
    have h2 : qh * (vh * 2147483648 + v2) * P ≤ (two * 2147483648 + u2) * P := Nat.mul_le_mul_right _ h1
    obtain ⟨x, hx⟩ : ∃ x, x = vh * 2147483648 + v2 := ⟨_, rfl⟩
    rw [← hx] at hD h2
    have h3 : (q + 1) * D ≤ (q + 1) * (x * P + P) := Nat.mul_le_mul_left _ (by omega)
    have h4 : (q + 2) * (x * P) ≤ qh * (x * P) := Nat.mul_le_mul_right _ c
    have h5 : (q + 1) * P ≤ x * P := Nat.mul_le_mul_right _ (by omega)
    rw [Nat.mul_add (q + 1)] at h3
    rw [Nat.mul_assoc] at h2
    rw [show (q + 2) * (x * P) = (q + 1) * (x * P) + x * P by rw [Nat.succ_mul]] at h4
    omega
  · exact c
theorem kn_first {T D two vh u2 v2 P Tl Dl : Nat} (hT : T = (two * 2147483648 + u2) * P + Tl) (hD : D = (vh * 2147483648 + v2) * P + Dl) (hv2 : v2 < 2147483648) (hDl : Dl < P) (hlt : T < D * 2147483648) (hv : 2147483648 ≤ 2 * vh) : two / vh ≤ 2147483649 := by
  have h1 : two < (vh + 1) * 2147483648 := by
    rcases Nat.lt_or_ge two ((vh + 1) * 2147483648) with c | c
    · exact c
    · exfalso
      have h2 : D ≤ (vh + 1) * 2147483648 * P := by
        have : (vh * 2147483648 + v2) * P + P ≤ (vh + 1) * 2147483648 * P := by
          rw [← Nat.succ_mul]; exact Nat.mul_le_mul_right _ (by omega)
        omega
      have h3 : (vh + 1) * 2147483648 * (2147483648 * P) ≤ two * (2147483648 * P) := Nat.mul_le_mul_right _ c
      have h4 : D * 2147483648 ≤ (vh + 1) * 2147483648 * P * 2147483648 := Nat.mul_le_mul_right _ h2
      have h5 : (vh + 1) * 2147483648 * P * 2147483648 = (vh + 1) * 2147483648 * (2147483648 * P) := by rw [Nat.mul_assoc, Nat.mul_comm P]
      have h6 : two * (2147483648 * P) ≤ T := by rw [hT, Nat.add_mul, Nat.mul_assoc]; omega
      omega
  have h2 : two / vh < 2147483650 := by
    rw [Nat.div_lt_iff_lt_mul (by omega)]
    have : 2147483650 * vh = vh * 2147483648 + 2 * vh := by omega
    omega
  omega
theorem m_isTooOften (l : Launch) (g : am_G) {h : am_H} {dv cd D at0 : Nat} {qh rh v2 u2 : Nat} {q9 : Value} (hd0 : h.2 dv = some (eO 0 [q9, .ref (dv + 3), .ref (dv + 5)])) (wd : wN h (dv + 5) cd D) (hat : at0 ≤ 100000) (hs : 2 ≤ szn D) (hv2 : v2 = dg D (szn D - 2)) (hu2 : LV h (dv + 3) ((at0 + (szn D - 2) : Nat) : Int) (u2 : Int)) (hul : u2 < 2147483648) (hq : qh < 9223372036854775808) (hr : rh < 2147483648) :
    am_Met l g yX0_isTooOften (am_W1 yX0_isTooOften cX0_isTooOften 7 (some .boolean)) 2 0 0 [.ref dv, vL (qh : Int), vL (rh : Int), vI (at0 : Int)] h (pI (if 2147483647 < qh ∨ rh * 2147483648 + u2 < qh * v2 then 1 else 0) h) := by
  have h5 := wd.o
  have hnd := wd.n
  have d2 := dg_lt D (szn D - 2)
  refine am_mk [some (.ref dv), some (vL (qh : Int)), none, some (vL (rh : Int)), none, some (vI (at0 : Int)), none] 1 rfl rfl (by decide +kernel) (fun y hl hg hC hT _ => ?_)
  by_cases c : 2147483647 < qh
  · refine am_aload0 hC dX0_isTooOften_0 ?_
    refine am_getf hC dX0_isTooOften_1 fX0_21 hd0 rfl ?_
    refine am_getf hC dX0_isTooOften_4 fX0_24 h5 rfl ?_
    refine am_istore6 hC dX0_isTooOften_7 rfl ?_
    refine am_lload1 hC dX0_isTooOften_9 ?_
    refine am_ldc2 hC (2147483647) dX0_isTooOften_10 cX0_73 rfl ?_
    refine am_lif_gt hC 53 dX0_isTooOften_13 dX0_isTooOften_14 rfl (by omega) (by omega) (fun c14 => ?_) (fun c14 => ?_)
    · refine am_iconst hC dX0_isTooOften_53 ?_
      refine am_goto hC 58 dX0_isTooOften_54 rfl ?_
      exact am_zret hC hT dX0_isTooOften_58 (by omega) (Nat.le_refl _) (Nat.le_refl _) ⟨sI (by rw [if_pos (Or.inl c)]), rfl⟩
    · exact absurd (by omega) c14
  · have ml : qh * v2 ≤ 4611686014132420609 := by rw [hv2]; exact mul_lim (by omega) d2
    have e1 : (qh : Int) * (dg D (szn D - 2) : Int) = ((qh * v2 : Nat) : Int) := by rw [hv2]; push_cast; rfl
    refine am_aload0 hC dX0_isTooOften_0 ?_
    refine am_getf hC dX0_isTooOften_1 fX0_21 hd0 rfl ?_
    refine am_getf hC dX0_isTooOften_4 fX0_24 h5 rfl ?_
    refine am_istore6 hC dX0_isTooOften_7 rfl ?_
    refine am_lload1 hC dX0_isTooOften_9 ?_
    refine am_ldc2 hC (2147483647) dX0_isTooOften_10 cX0_73 rfl ?_
    refine am_lif_gt hC 53 dX0_isTooOften_13 dX0_isTooOften_14 rfl (by omega) (by omega) (fun c14 => ?_) (fun c14 => ?_)
    · exact absurd c14 (by omega)
    · refine am_lload1 hC dX0_isTooOften_17 ?_
      refine am_aload0 hC dX0_isTooOften_18 ?_
      refine am_getf hC dX0_isTooOften_19 fX0_21 hd0 rfl ?_
      refine am_iload6 hC dX0_isTooOften_22 ?_
      refine am_iconst hC dX0_isTooOften_24 ?_
      refine am_isub hC dX0_isTooOften_25 ?_
      rw [show (szn D : Int) - 2 = ((szn D - 2 : Nat) : Int) by omega]
      refine r_limb hC dX0_isTooOften_26 kX0_32 (wd.lv _) (by omega) (Nat.le_of_ble_eq_true rfl) (by decide) (Nat.le_refl _) (Nat.le_refl _) ?_
      refine am_lmul hC dX0_isTooOften_29 ?_
      refine am_lload3 hC dX0_isTooOften_30 ?_
      refine am_bipush hC dX0_isTooOften_31 rfl ?_
      refine am_lshl hC 31 dX0_isTooOften_33 rfl (by decide) ?_
      refine am_aload0 hC dX0_isTooOften_34 ?_
      refine am_getf hC dX0_isTooOften_35 fX0_18 hd0 rfl ?_
      refine am_iload5 hC dX0_isTooOften_38 ?_
      refine am_iload6 hC dX0_isTooOften_40 ?_
      refine am_iadd hC dX0_isTooOften_42 ?_
      refine am_iconst hC dX0_isTooOften_43 ?_
      refine am_isub hC dX0_isTooOften_44 ?_
      rw [show (at0 : Int) + (szn D : Int) - 2 = ((at0 + (szn D - 2) : Nat) : Int) by omega, e1]
      refine r_limb hC dX0_isTooOften_45 kX0_32 hu2 (by omega) (Nat.le_of_ble_eq_true rfl) (by decide) (Nat.le_refl _) (Nat.le_refl _) ?_
      refine am_lor2 hC 31 dX0_isTooOften_48 (by decide) (by omega) (by omega) ?_
      refine am_lif_le hC 57 dX0_isTooOften_49 dX0_isTooOften_50 rfl (by omega) (by omega) (fun c50 => ?_) (fun c50 => ?_)
      · refine am_iconst hC dX0_isTooOften_57 ?_
        first
          | exact am_zret hC hT dX0_isTooOften_58 (by omega) (Nat.le_refl _) (Nat.le_refl _) ⟨sI (by rw [if_neg (by omega)]), rfl⟩
          | exact am_zret hC hT dX0_isTooOften_58 (by omega) (Nat.le_refl _) (Nat.le_refl _) ⟨sI (by rw [if_pos (by omega)]), rfl⟩
      · refine am_iconst hC dX0_isTooOften_53 ?_
        refine am_goto hC 58 dX0_isTooOften_54 rfl ?_
        first
          | exact am_zret hC hT dX0_isTooOften_58 (by omega) (Nat.le_refl _) (Nat.le_refl _) ⟨sI (by rw [if_neg (by omega)]), rfl⟩
          | exact am_zret hC hT dX0_isTooOften_58 (by omega) (Nat.le_refl _) (Nat.le_refl _) ⟨sI (by rw [if_pos (by omega)]), rfl⟩

theorem sI {a b : Int} (h : a = b) : some (vI a) = some (vI b) := by rw [h]
theorem sL {a b : Int} (h : a = b) : some (vL a) = some (vL b) := by rw [h]
/-! the JDK's own: max, min, abs, leading zeros -/
theorem m_max (l : Launch) (g : am_G) (h : am_H) {a b : Int} (ha : -2147483648 ≤ a ∧ a ≤ 2147483647) (hb : -2147483648 ≤ b ∧ b ≤ 2147483647) : am_Met l g yJ9_max_7cf53 (am_W1 yJ9_max_7cf53 cJ9_max_7cf53 2 (some .int)) 1 0 0 [vI a, vI b] h (pI (max a b) h) := by
  refine am_mkF [some (vI a), some (vI b)] 0 rfl rfl (by decide +kernel) (fun x hl hg hC hT => ?_)
  refine am_iload0 hC dJ9_max_7cf53_0 ?_
  refine am_iload1 hC dJ9_max_7cf53_1 ?_
  refine am_icmp_lt hC 9 dJ9_max_7cf53_2 rfl (by omega) (by omega) (fun c2 => ?_) (fun c2 => ?_)
  · refine am_iload1 hC dJ9_max_7cf53_9 ?_
    exact am_iret hC hT dJ9_max_7cf53_10 (Nat.le_refl _) (Nat.le_refl _) ⟨sI (by omega), rfl⟩
  · refine am_iload0 hC dJ9_max_7cf53_5 ?_
    refine am_goto hC 10 dJ9_max_7cf53_6 rfl ?_
    exact am_iret hC hT dJ9_max_7cf53_10 (Nat.le_refl _) (Nat.le_refl _) ⟨sI (by omega), rfl⟩
theorem m_min (l : Launch) (g : am_G) (h : am_H) {a b : Int} (ha : -2147483648 ≤ a ∧ a ≤ 2147483647) (hb : -2147483648 ≤ b ∧ b ≤ 2147483647) : am_Met l g yJ9_min_7cf53 (am_W1 yJ9_min_7cf53 cJ9_min_7cf53 2 (some .int)) 1 0 0 [vI a, vI b] h (pI (min a b) h) := by
  refine am_mkF [some (vI a), some (vI b)] 0 rfl rfl (by decide +kernel) (fun x hl hg hC hT => ?_)
  refine am_iload0 hC dJ9_min_7cf53_0 ?_
  refine am_iload1 hC dJ9_min_7cf53_1 ?_
  refine am_icmp_gt hC 9 dJ9_min_7cf53_2 rfl (by omega) (by omega) (fun c2 => ?_) (fun c2 => ?_)
  · refine am_iload1 hC dJ9_min_7cf53_9 ?_
    exact am_iret hC hT dJ9_min_7cf53_10 (Nat.le_refl _) (Nat.le_refl _) ⟨sI (by omega), rfl⟩
  · refine am_iload0 hC dJ9_min_7cf53_5 ?_
    refine am_goto hC 10 dJ9_min_7cf53_6 rfl ?_
    exact am_iret hC hT dJ9_min_7cf53_10 (Nat.le_refl _) (Nat.le_refl _) ⟨sI (by omega), rfl⟩
theorem m_maxL (l : Launch) (g : am_G) (h : am_H) {a b : Int} (ha : -9223372036854775808 ≤ a ∧ a ≤ 9223372036854775807) (hb : -9223372036854775808 ≤ b ∧ b ≤ 9223372036854775807) : am_Met l g yJ9_max_f86c9 (am_W1 yJ9_max_f86c9 cJ9_max_f86c9 4 (some .long)) 1 0 0 [vL a, vL b] h (pL (max a b) h) := by
  refine am_mkF [some (vL a), none, some (vL b), none] 0 rfl rfl (by decide +kernel) (fun x hl hg hC hT => ?_)
  refine am_lload0 hC dJ9_max_f86c9_0 ?_
  refine am_lload2 hC dJ9_max_f86c9_1 ?_
  refine am_lif_lt hC 10 dJ9_max_f86c9_2 dJ9_max_f86c9_3 rfl (by omega) (by omega) (fun c3 => ?_) (fun c3 => ?_)
  · refine am_lload2 hC dJ9_max_f86c9_10 ?_
    exact am_lret hC hT dJ9_max_f86c9_11 (Nat.le_refl _) (Nat.le_refl _) ⟨sL (by omega), rfl⟩
  · refine am_lload0 hC dJ9_max_f86c9_6 ?_
    refine am_goto hC 11 dJ9_max_f86c9_7 rfl ?_
    exact am_lret hC hT dJ9_max_f86c9_11 (Nat.le_refl _) (Nat.le_refl _) ⟨sL (by omega), rfl⟩
theorem m_abs (l : Launch) (g : am_G) (h : am_H) {a : Int} (ha : -9223372036854775807 ≤ a ∧ a ≤ 9223372036854775807) : am_Met l g yJ9_abs_067f4 (am_W1 yJ9_abs_067f4 cJ9_abs_067f4 2 (some .long)) 1 0 0 [vL a] h (pL (if a < 0 then -a else a) h) := by
  refine am_mkF [some (vL a), none] 0 rfl rfl (by decide +kernel) (fun x hl hg hC hT => ?_)
  refine am_lload0 hC dJ9_abs_067f4_0 ?_
  refine am_lconst0 hC dJ9_abs_067f4_1 ?_
  refine am_lif_ge hC 11 dJ9_abs_067f4_2 dJ9_abs_067f4_3 rfl (by omega) (by omega) (fun c3 => ?_) (fun c3 => ?_)
  · refine am_lload0 hC dJ9_abs_067f4_11 ?_
    exact am_lret hC hT dJ9_abs_067f4_12 (Nat.le_refl _) (Nat.le_refl _) ⟨by simp [*], rfl⟩
  · refine am_lload0 hC dJ9_abs_067f4_6 ?_
    refine am_lneg hC dJ9_abs_067f4_7 ?_
    refine am_goto hC 12 dJ9_abs_067f4_8 rfl ?_
    exact am_lret hC hT dJ9_abs_067f4_12 (Nat.le_refl _) (Nat.le_refl _) ⟨by simp [*], rfl⟩
theorem lg_log {a : Int} (k : Nat) (h1 : 2 ^ k ≤ a) (h2 : a < 2 ^ (k + 1)) : (Nat.log2 a.toNat : Int) = k := by
  have e1 : ((2 ^ k : Nat) : Int) = 2 ^ k := by push_cast; rfl
  have e2 : ((2 ^ (k + 1) : Nat) : Int) = 2 ^ (k + 1) := by push_cast; rfl
  have h3 : 2 ^ k ≤ a.toNat := by omega
  have h4 : a.toNat < 2 ^ (k + 1) := by omega
  have h0 : a.toNat ≠ 0 := by have := Nat.two_pow_pos k; omega
  have h5 := (Nat.log2_lt h0).mpr h4
  have h6 := (Nat.le_log2 h0).mpr h3
  omega
theorem nz_leaf {a i n : Int} (s : Nat) (hn : n = 31 - s) (hi : i = a / 2 ^ s) (h1 : 1 ≤ i) (h3 : i ≤ 3) : n - i / 2 ^ 1 = 31 - (Nat.log2 a.toNat : Int) := by
  have hs : (0 : Int) < 2 ^ s := by exact_mod_cast Nat.two_pow_pos s
  have h4 : 2 ^ s * i ≤ a := by rw [hi]; exact Int.mul_ediv_self_le (by omega)
  have h5 : a < 2 ^ s * i + 2 ^ s := by rw [hi]; exact Int.lt_mul_ediv_self_add hs
  by_cases h : i = 1
  · subst h
    rw [lg_log s (by omega) (by rw [Int.pow_succ]; omega), hn]
    omega
  · have e : i / 2 ^ 1 = 1 := by omega
    have h6 : 2 ^ s * 2 ≤ 2 ^ s * i := Int.mul_le_mul_of_nonneg_left (by omega) (by omega)
    have h7 : 2 ^ s * i ≤ 2 ^ s * 3 := Int.mul_le_mul_of_nonneg_left (by omega) (by omega)
    rw [lg_log (s + 1) (by rw [Int.pow_succ]; omega) (by rw [Int.pow_succ, Int.pow_succ]; omega), hn, e]
    omega
theorem m_nlzI (l : Launch) (g : am_G) (h : am_H) {a : Int} (ha : 0 < a ∧ a ≤ 2147483647) : am_Met l g yJ6_numberOfLeadingZeros_0f7a4 (am_W1 yJ6_numberOfLeadingZeros_0f7a4 cJ6_numberOfLeadingZeros_0f7a4 2 (some .int)) 1 0 0 [vI a] h (pI (31 - (Nat.log2 a.toNat : Int)) h) := by
  refine am_mkF [some (vI a), none] 1 rfl rfl (by decide +kernel) (fun x hl hg hC hT => ?_)
  have leaf : ∀ (i n : Int) (s : Nat), n = 31 - s → i = a / 2 ^ s → 1 ≤ i → i ≤ 3 → am_W x 73 0 0 h [some (vI i), some (vI n)] [] := by
    intro i n s hn hi h1 h3
    refine am_iload1 hC dJ6_numberOfLeadingZeros_0f7a4_73 ?_
    refine am_iload0 hC dJ6_numberOfLeadingZeros_0f7a4_74 ?_
    refine am_iconst hC dJ6_numberOfLeadingZeros_0f7a4_75 ?_
    refine am_iushr hC 1 dJ6_numberOfLeadingZeros_0f7a4_76 (by omega) rfl (by decide) ?_
    refine am_isub hC dJ6_numberOfLeadingZeros_0f7a4_77 ?_
    exact am_iret hC hT dJ6_numberOfLeadingZeros_0f7a4_78 (Nat.le_refl _) (Nat.le_refl _) ⟨sI (nz_leaf s hn hi h1 h3), rfl⟩
  have st3 : ∀ (i n : Int) (s : Nat), n = 31 - s → i = a / 2 ^ s → 1 ≤ i → i ≤ 15 → am_W x 61 0 0 h [some (vI i), some (vI n)] [] := by
    intro i n s hn hi h1 h3
    refine am_iload0 hC dJ6_numberOfLeadingZeros_0f7a4_61 ?_
    refine am_iconst hC dJ6_numberOfLeadingZeros_0f7a4_62 ?_
    refine am_icmp_lt hC 73 dJ6_numberOfLeadingZeros_0f7a4_63 rfl (by omega) (by omega) (fun c63 => ?_) (fun c63 => ?_)
    · first | exact leaf _ _ s hn hi h1 (by omega) | exact leaf _ _ (s + 2) (by omega) (by rw [hi, Int.pow_add, Int.ediv_ediv_of_nonneg (by exact_mod_cast Nat.zero_le _)]) (by omega) (by omega)
    · refine am_iinc1 hC dJ6_numberOfLeadingZeros_0f7a4_66 rfl ?_
      refine am_iload0 hC dJ6_numberOfLeadingZeros_0f7a4_69 ?_
      refine am_iconst hC dJ6_numberOfLeadingZeros_0f7a4_70 ?_
      refine am_iushr hC 2 dJ6_numberOfLeadingZeros_0f7a4_71 (by omega) rfl (by decide) ?_
      refine am_istore0 hC dJ6_numberOfLeadingZeros_0f7a4_72 ?_
      first | exact leaf _ _ s hn hi h1 (by omega) | exact leaf _ _ (s + 2) (by omega) (by rw [hi, Int.pow_add, Int.ediv_ediv_of_nonneg (by exact_mod_cast Nat.zero_le _)]) (by omega) (by omega)
  have st2 : ∀ (i n : Int) (s : Nat), n = 31 - s → i = a / 2 ^ s → 1 ≤ i → i ≤ 255 → am_W x 48 0 0 h [some (vI i), some (vI n)] [] := by
    intro i n s hn hi h1 h3
    refine am_iload0 hC dJ6_numberOfLeadingZeros_0f7a4_48 ?_
    refine am_bipush hC dJ6_numberOfLeadingZeros_0f7a4_49 rfl ?_
    refine am_icmp_lt hC 61 dJ6_numberOfLeadingZeros_0f7a4_51 rfl (by omega) (by omega) (fun c51 => ?_) (fun c51 => ?_)
    · first | exact st3 _ _ s hn hi h1 (by omega) | exact st3 _ _ (s + 4) (by omega) (by rw [hi, Int.pow_add, Int.ediv_ediv_of_nonneg (by exact_mod_cast Nat.zero_le _)]) (by omega) (by omega)
    · refine am_iinc1 hC dJ6_numberOfLeadingZeros_0f7a4_54 rfl ?_
      refine am_iload0 hC dJ6_numberOfLeadingZeros_0f7a4_57 ?_
      refine am_iconst hC dJ6_numberOfLeadingZeros_0f7a4_58 ?_
      refine am_iushr hC 4 dJ6_numberOfLeadingZeros_0f7a4_59 (by omega) rfl (by decide) ?_
      refine am_istore0 hC dJ6_numberOfLeadingZeros_0f7a4_60 ?_
      first | exact st3 _ _ s hn hi h1 (by omega) | exact st3 _ _ (s + 4) (by omega) (by rw [hi, Int.pow_add, Int.ediv_ediv_of_nonneg (by exact_mod_cast Nat.zero_le _)]) (by omega) (by omega)
  have st1 : ∀ (i n : Int) (s : Nat), n = 31 - s → i = a / 2 ^ s → 1 ≤ i → i ≤ 65535 → am_W x 33 0 0 h [some (vI i), some (vI n)] [] := by
    intro i n s hn hi h1 h3
    refine am_iload0 hC dJ6_numberOfLeadingZeros_0f7a4_33 ?_
    refine am_sipush hC dJ6_numberOfLeadingZeros_0f7a4_34 rfl ?_
    refine am_icmp_lt hC 48 dJ6_numberOfLeadingZeros_0f7a4_37 rfl (by omega) (by omega) (fun c37 => ?_) (fun c37 => ?_)
    · first | exact st2 _ _ s hn hi h1 (by omega) | exact st2 _ _ (s + 8) (by omega) (by rw [hi, Int.pow_add, Int.ediv_ediv_of_nonneg (by exact_mod_cast Nat.zero_le _)]) (by omega) (by omega)
    · refine am_iinc1 hC dJ6_numberOfLeadingZeros_0f7a4_40 rfl ?_
      refine am_iload0 hC dJ6_numberOfLeadingZeros_0f7a4_43 ?_
      refine am_bipush hC dJ6_numberOfLeadingZeros_0f7a4_44 rfl ?_
      refine am_iushr hC 8 dJ6_numberOfLeadingZeros_0f7a4_46 (by omega) rfl (by decide) ?_
      refine am_istore0 hC dJ6_numberOfLeadingZeros_0f7a4_47 ?_
      first | exact st2 _ _ s hn hi h1 (by omega) | exact st2 _ _ (s + 8) (by omega) (by rw [hi, Int.pow_add, Int.ediv_ediv_of_nonneg (by exact_mod_cast Nat.zero_le _)]) (by omega) (by omega)
  refine am_iload0 hC dJ6_numberOfLeadingZeros_0f7a4_0 ?_
  refine am_if_gt hC 15 dJ6_numberOfLeadingZeros_0f7a4_1 rfl (by omega) (fun c1 => ?_) (fun c1 => ?_)
  · refine am_bipush hC dJ6_numberOfLeadingZeros_0f7a4_15 rfl ?_
    refine am_istore1 hC dJ6_numberOfLeadingZeros_0f7a4_17 rfl ?_
    refine am_iload0 hC dJ6_numberOfLeadingZeros_0f7a4_18 ?_
    refine am_ldcw hC (65536) dJ6_numberOfLeadingZeros_0f7a4_19 cJ6_264 rfl ?_
    refine am_icmp_lt hC 33 dJ6_numberOfLeadingZeros_0f7a4_22 rfl (by omega) (by omega) (fun c22 => ?_) (fun c22 => ?_)
    · first | exact st1 _ _ 0 (by omega) (by omega) (by omega) (by omega) | exact st1 _ _ 16 (by omega) (by omega) (by omega) (by omega)
    · refine am_iinc1 hC dJ6_numberOfLeadingZeros_0f7a4_25 rfl ?_
      refine am_iload0 hC dJ6_numberOfLeadingZeros_0f7a4_28 ?_
      refine am_bipush hC dJ6_numberOfLeadingZeros_0f7a4_29 rfl ?_
      refine am_iushr hC 16 dJ6_numberOfLeadingZeros_0f7a4_31 (by omega) rfl (by decide) ?_
      refine am_istore0 hC dJ6_numberOfLeadingZeros_0f7a4_32 ?_
      first | exact st1 _ _ 0 (by omega) (by omega) (by omega) (by omega) | exact st1 _ _ 16 (by omega) (by omega) (by omega) (by omega)
  · exact absurd c1 (by omega)
theorem m_nlz (l : Launch) (g : am_G) (h : am_H) {a : Int} (ha : 0 < a ∧ a ≤ 2147483647) : am_Met l g yJ13_numberOfLeadingZeros_95d88 (am_W1 yJ13_numberOfLeadingZeros_95d88 cJ13_numberOfLeadingZeros_95d88 3 (some .int)) 2 0 0 [vL a] h (pI (63 - (Nat.log2 a.toNat : Int)) h) := by
  refine am_mkF [some (vL a), none, none] 1 rfl rfl (by decide +kernel) (fun x hl hg hC hT => ?_)
  refine am_lload0 hC dJ13_numberOfLeadingZeros_95d88_0 ?_
  refine am_bipush hC dJ13_numberOfLeadingZeros_95d88_1 rfl ?_
  refine am_lushr hC 32 dJ13_numberOfLeadingZeros_95d88_3 rfl (by decide) ?_
  refine am_l2i hC dJ13_numberOfLeadingZeros_95d88_4 ?_
  refine am_istore2 hC dJ13_numberOfLeadingZeros_95d88_5 rfl ?_
  refine am_iload2 hC dJ13_numberOfLeadingZeros_95d88_6 ?_
  refine am_if_ne hC 21 dJ13_numberOfLeadingZeros_95d88_7 rfl (by omega) (fun c7 => ?_) (fun c7 => ?_)
  · exact absurd (by omega) c7
  · refine am_bipush hC dJ13_numberOfLeadingZeros_95d88_10 rfl ?_
    refine am_lload0 hC dJ13_numberOfLeadingZeros_95d88_12 ?_
    refine am_l2i hC dJ13_numberOfLeadingZeros_95d88_13 ?_
    refine am_S1_pI hC dJ13_numberOfLeadingZeros_95d88_14 kJ13_308 (m_nlzI _ _ _ ha) (Nat.le_of_ble_eq_true rfl) (by decide) (Nat.le_refl _) (Nat.le_refl _) ?_
    refine am_iadd hC dJ13_numberOfLeadingZeros_95d88_17 ?_
    refine am_goto hC 25 dJ13_numberOfLeadingZeros_95d88_18 rfl ?_
    exact am_iret hC hT dJ13_numberOfLeadingZeros_95d88_25 (Nat.le_refl _) (Nat.le_refl _) ⟨sI (by omega), rfl⟩

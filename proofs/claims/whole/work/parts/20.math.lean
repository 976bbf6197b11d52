/-! the JDK's own: max, min, abs -/
theorem m_max (l : Launch) (g : am_G) (h : am_H) {a b : Int} (ha : -2147483648 ≤ a ∧ a ≤ 2147483647) (hb : -2147483648 ≤ b ∧ b ≤ 2147483647) : am_Met l g yJ9_max_7cf53 (am_W1 yJ9_max_7cf53 cJ9_max_7cf53 2 (some .int)) 1 0 0 [vI a, vI b] h (pI (if a < b then b else a) h) := by
  refine am_mkF [some (vI a), some (vI b)] 0 rfl rfl (by decide +kernel) (fun x hl hg hC hT => ?_)
  refine am_iload0 hC dJ9_max_7cf53_0 ?_
  refine am_iload1 hC dJ9_max_7cf53_1 ?_
  refine am_icmp_lt hC 9 dJ9_max_7cf53_2 rfl (by omega) (by omega) (fun c2 => ?_) (fun c2 => ?_)
  · refine am_iload1 hC dJ9_max_7cf53_9 ?_
    exact am_iret hC hT dJ9_max_7cf53_10 (Nat.le_refl _) (Nat.le_refl _) ⟨by simp [*], rfl⟩
  · refine am_iload0 hC dJ9_max_7cf53_5 ?_
    refine am_goto hC 10 dJ9_max_7cf53_6 rfl ?_
    exact am_iret hC hT dJ9_max_7cf53_10 (Nat.le_refl _) (Nat.le_refl _) ⟨by simp [*], rfl⟩
theorem m_min (l : Launch) (g : am_G) (h : am_H) {a b : Int} (ha : -2147483648 ≤ a ∧ a ≤ 2147483647) (hb : -2147483648 ≤ b ∧ b ≤ 2147483647) : am_Met l g yJ9_min_7cf53 (am_W1 yJ9_min_7cf53 cJ9_min_7cf53 2 (some .int)) 1 0 0 [vI a, vI b] h (pI (if b < a then b else a) h) := by
  refine am_mkF [some (vI a), some (vI b)] 0 rfl rfl (by decide +kernel) (fun x hl hg hC hT => ?_)
  refine am_iload0 hC dJ9_min_7cf53_0 ?_
  refine am_iload1 hC dJ9_min_7cf53_1 ?_
  refine am_icmp_gt hC 9 dJ9_min_7cf53_2 rfl (by omega) (by omega) (fun c2 => ?_) (fun c2 => ?_)
  · refine am_iload1 hC dJ9_min_7cf53_9 ?_
    exact am_iret hC hT dJ9_min_7cf53_10 (Nat.le_refl _) (Nat.le_refl _) ⟨by simp [*], rfl⟩
  · refine am_iload0 hC dJ9_min_7cf53_5 ?_
    refine am_goto hC 10 dJ9_min_7cf53_6 rfl ?_
    exact am_iret hC hT dJ9_min_7cf53_10 (Nat.le_refl _) (Nat.le_refl _) ⟨by simp [*], rfl⟩
theorem m_maxL (l : Launch) (g : am_G) (h : am_H) {a b : Int} (ha : -9223372036854775808 ≤ a ∧ a ≤ 9223372036854775807) (hb : -9223372036854775808 ≤ b ∧ b ≤ 9223372036854775807) : am_Met l g yJ9_max_f86c9 (am_W1 yJ9_max_f86c9 cJ9_max_f86c9 4 (some .long)) 1 0 0 [vL a, vL b] h (pL (if a < b then b else a) h) := by
  refine am_mkF [some (vL a), none, some (vL b), none] 0 rfl rfl (by decide +kernel) (fun x hl hg hC hT => ?_)
  refine am_lload0 hC dJ9_max_f86c9_0 ?_
  refine am_lload2 hC dJ9_max_f86c9_1 ?_
  refine am_lif_lt hC 10 dJ9_max_f86c9_2 dJ9_max_f86c9_3 rfl (by omega) (by omega) (fun c3 => ?_) (fun c3 => ?_)
  · refine am_lload2 hC dJ9_max_f86c9_10 ?_
    exact am_lret hC hT dJ9_max_f86c9_11 (Nat.le_refl _) (Nat.le_refl _) ⟨by simp [*], rfl⟩
  · refine am_lload0 hC dJ9_max_f86c9_6 ?_
    refine am_goto hC 11 dJ9_max_f86c9_7 rfl ?_
    exact am_lret hC hT dJ9_max_f86c9_11 (Nat.le_refl _) (Nat.le_refl _) ⟨by simp [*], rfl⟩
theorem m_abs (l : Launch) (g : am_G) (h : am_H) {a : Int} (ha : -9223372036854775807 ≤ a ∧ a ≤ 9223372036854775807) : am_Met l g yJ9_abs_067f4 (am_W1 yJ9_abs_067f4 cJ9_abs_067f4 2 (some .long)) 1 0 0 [vL a] h (pL (if a < 0 then -a else a) h) := by
  refine am_mkF [some (vL a), none] 0 rfl rfl (by decide +kernel) (fun x hl hg hC hT => ?_)
  refine am_lload0 hC dJ9_abs_067f4_0 ?_
  refine am_lconst0 hC dJ9_abs_067f4_1 ?_
  refine am_lif_ge hC 11 dJ9_abs_067f4_2 dJ9_abs_067f4_3 rfl (by omega) (by omega) (fun c3 => ?_) (fun c3 => ?_)
  · refine am_lload0 hC dJ9_abs_067f4_11 ?_
    exact am_lret hC hT dJ9_abs_067f4_12 (Nat.le_refl _) (Nat.le_refl _) ⟨by simp [*], rfl⟩
  · refine am_lload0 hC dJ9_abs_067f4_6 ?_
    refine am_lneg hC dJ9_abs_067f4_7 ?_
    refine am_goto hC 12 dJ9_abs_067f4_8 rfl ?_
    exact am_lret hC hT dJ9_abs_067f4_12 (Nat.le_refl _) (Nat.le_refl _) ⟨by simp [*], rfl⟩
theorem m_nlzI (l : Launch) (g : am_G) (h : am_H) {a : Int} (ha : 0 < a ∧ a ≤ 2147483647) : am_Met l g yJ6_numberOfLeadingZeros_0f7a4 (am_W1 yJ6_numberOfLeadingZeros_0f7a4 cJ6_numberOfLeadingZeros_0f7a4 2 (some .int)) 1 0 0 [vI a] h (fun r h1 => ∃ v : Int, r = some (vI v) ∧ 0 ≤ v ∧ v ≤ 31 ∧ 2 ^ (31 - v.toNat) ≤ a ∧ a < 2 ^ (32 - v.toNat) ∧ h1 = h) := by
  sorry

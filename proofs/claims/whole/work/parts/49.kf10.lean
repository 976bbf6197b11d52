/-! digits -/
/-- how many decimal digits -/
def dlen (a : Nat) : Nat := if q : a < 10 then 1 else dlen (a / 10) + 1
decreasing_by omega
theorem dlen_lt {a : Nat} (h : a < 10) : dlen a = 1 := by rw [dlen, dif_pos h]
theorem dlen_ge {a : Nat} (h : 10 ≤ a) : dlen a = dlen (a / 10) + 1 := by rw [dlen, dif_neg (by omega)]
/-- n is the count: no zero leads -/
theorem dlen_of : ∀ (n a : Nat), a < 10 ^ n → (n = 1 ∨ (2 ≤ n ∧ a / 10 ^ (n - 1) ≠ 0)) → dlen a = n := by
  intro n
  induction n with
  | zero => intro a _ h; omega
  | succ n ih =>
    intro a h1 h2
    rcases Nat.eq_zero_or_pos n with c | c
    · subst c; exact dlen_lt (by simpa using h1)
    · have h3 : a / 10 ^ n ≠ 0 := (h2.resolve_left (by omega)).2
      have h4 : 10 ^ n ≤ a := by
        rcases Nat.lt_or_ge a (10 ^ n) with d | d
        · exact absurd (Nat.div_eq_of_lt d) h3
        · exact d
      have h5 : 10 ^ 1 ≤ 10 ^ n := Nat.pow_le_pow_right (by decide) c
      rw [dlen_ge (by omega), ih (a / 10)]
      · rw [Nat.div_lt_iff_lt_mul (by decide), ← Nat.pow_succ]; exact h1
      · by_cases d : n = 1
        · exact Or.inl d
        · refine Or.inr ⟨by omega, ?_⟩
          rw [Nat.div_div_eq_div_mul, Nat.mul_comm, ← Nat.pow_succ, show (n - 1).succ = n by omega]
          exact h3
def aPart (s : aS) (i : Nat) (part : Int) : Nat := if part = 0 then (s.2.1 i).2.1 else (s.2.1 i).2.2
def aDigit (a : Nat) (i : Nat) : Int := ((a / 10 ^ (dlen a - 1 - i) % 10 : Nat) : Int)
/-- the row of digits -/
def dg_row (h : am_H) (a n : Nat) : Prop := ∃ f : Nat → Int, h.2 23 = some (eI 243 f) ∧ ∀ j, j < n → f j = ((a / 10 ^ j % 10 : Nat) : Int)
theorem kS.dg {h h1 : am_H} {s : aS} {f : Nat → Int} (w : kS h s) (b : 43 ≤ h.1) (e : h1 = am_up h 23 (eI 243 f)) : kS h1 s := by
  have o : gx h h1 [23] := by rw [e]; exact gx_up _ _ _
  refine w.tmp o b (by intro j hj; simp at hj; omega) ?_
  obtain ⟨w1, w2, w3, w4, w5, ⟨f', w6⟩, w7, w8⟩ := w.2.2.2.2
  exact ⟨w1.gx o (by omega) (by simp) (by simp), w2.gx o (by omega) (by simp) (by simp), w3.gx o (by omega) (by simp) (by simp), w4.gx o (by omega) (by simp) (by simp), w5.gx o (by omega) (by simp) (by simp), ⟨f, by rw [e]; exact am_up_at _ _ _⟩, w7.gx o (by omega) (by intro j _ _; simp; omega), w8.gx o (by omega) (by intro j _ _; simp; omega)⟩
theorem m_setDigit (l : Launch) (g : am_G) {h : am_H} {s : aS} {f : Nat → Int} {j v : Int} (w : kS h s) (e14 : h.2 23 = some (eI 243 f)) (hj : 0 ≤ j ∧ j < 243) :
    am_Met l g yX4_setDigitFromLowest (am_W1 yX4_setDigitFromLowest cX4_setDigitFromLowest 3 none) 1 0 0 [.ref 0, vI j, vI v] h (qN fun h1 => h1 = am_up h 23 (eI 243 (am_fu f j.toNat v))) := by
  have h0 := w.1
  refine am_mk [some (.ref 0), some (vI j), some (vI v)] 0 rfl rfl (by decide +kernel) (fun x hl hg hC hT _ => ?_)
  refine am_iload1 hC dX4_setDigitFromLowest_0 ?_
  refine am_if_lt hC 20 dX4_setDigitFromLowest_1 rfl (by omega) (fun c1 => ?_) (fun c1 => ?_)
  · exact absurd c1 (by omega)
  · refine am_iload1 hC dX4_setDigitFromLowest_4 ?_
    refine am_aload0 hC dX4_setDigitFromLowest_5 ?_
    refine am_getf hC dX4_setDigitFromLowest_6 fX4_55 h0 rfl ?_
    refine am_alenI hC dX4_setDigitFromLowest_9 e14 ?_
    refine am_icmp_ge hC 20 dX4_setDigitFromLowest_10 rfl (by omega) (by omega) (fun c10 => ?_) (fun c10 => ?_)
    · exact absurd c10 (by omega)
    · refine am_aload0 hC dX4_setDigitFromLowest_13 ?_
      refine am_getf hC dX4_setDigitFromLowest_14 fX4_55 h0 rfl ?_
      refine am_iload1 hC dX4_setDigitFromLowest_17 ?_
      refine am_iload2 hC dX4_setDigitFromLowest_18 ?_
      refine am_iast hC dX4_setDigitFromLowest_19 e14 (by omega) (by omega) ?_
      exact am_vret hC hT dX4_setDigitFromLowest_20 (Nat.le_refl _) (Nat.le_refl _) ⟨rfl, rfl⟩
theorem m_getDigit (l : Launch) (g : am_G) {h : am_H} {s : aS} {f : Nat → Int} {j : Int} (w : kS h s) (e14 : h.2 23 = some (eI 243 f)) (hj : 0 ≤ j ∧ j < 243) :
    am_Met l g yX4_digitFromLowest (am_W1 yX4_digitFromLowest cX4_digitFromLowest 2 (some .int)) 1 0 0 [.ref 0, vI j] h (pI (f j.toNat) h) := by
  have h0 := w.1
  refine am_mk [some (.ref 0), some (vI j)] 0 rfl rfl (by decide +kernel) (fun x hl hg hC hT _ => ?_)
  refine am_iload1 hC dX4_digitFromLowest_0 ?_
  refine am_if_lt hC 22 dX4_digitFromLowest_1 rfl (by omega) (fun c1 => ?_) (fun c1 => ?_)
  · exact absurd c1 (by omega)
  · refine am_iload1 hC dX4_digitFromLowest_4 ?_
    refine am_aload0 hC dX4_digitFromLowest_5 ?_
    refine am_getf hC dX4_digitFromLowest_6 fX4_55 h0 rfl ?_
    refine am_alenI hC dX4_digitFromLowest_9 e14 ?_
    refine am_icmp_ge hC 22 dX4_digitFromLowest_10 rfl (by omega) (by omega) (fun c10 => ?_) (fun c10 => ?_)
    · exact absurd c10 (by omega)
    · refine am_aload0 hC dX4_digitFromLowest_13 ?_
      refine am_getf hC dX4_digitFromLowest_14 fX4_55 h0 rfl ?_
      refine am_iload1 hC dX4_digitFromLowest_17 ?_
      refine am_iald hC dX4_digitFromLowest_18 e14 (by omega) (by omega) ?_
      refine am_goto hC 23 dX4_digitFromLowest_19 rfl ?_
      exact am_iret hC hT dX4_digitFromLowest_23 (Nat.le_refl _) (Nat.le_refl _) ⟨rfl, rfl⟩
theorem m_writeDigits (l : Launch) (g : am_G) {h : am_H} {s : aS} {a : Nat} (w : kS h s) (b39 : 43 ≤ h.1) (wl : wN h 19 56 a) (ha : bl a ≤ 800) :
    am_Met l g yX4_writeDigitsOfLeft (am_W1 yX4_writeDigitsOfLeft cX4_writeDigitsOfLeft 6 (some .int)) 4 0 0 [.ref 0] h (qI fun v h1 => v = (dlen a : Int) ∧ dlen a ≤ 243 ∧ kS h1 s ∧ dg_row h1 a (dlen a) ∧ gx h h1 [19, 20, 23]) := by
  have h0 := w.1
  refine am_mk [some (.ref 0), none, none, none, none, none] 5 rfl rfl (by decide +kernel) (fun x hl hg hC hT _ => ?_)
  have al : a < 10 ^ 243 := Nat.lt_of_lt_of_le (bl_le.mp ha) (by decide +kernel)
  have trim : ∀ (n : Nat) (H : am_H) (f : Nat → Int) (t2 : Int) (y3 y4 y5 : Option Value), n ≤ 243 → kS H s → gx h H [19, 20, 23] → H.2 23 = some (eI 243 f) → a < 10 ^ n → (∀ j, j < n → f j = ((a / 10 ^ j % 10 : Nat) : Int)) → am_W x 73 0 0 H [some (.ref 0), some (vI (n : Int)), some (vI t2), y3, y4, y5] [] := by
    intro n
    induction n with
    | zero =>
      intro H f t2 y3 y4 y5 hn v o e14 q hf
      have a0 : a = 0 := by rw [Nat.pow_zero] at q; omega
      have d1 : dlen a = 1 := dlen_lt (by omega)
      have b1 := o.1
      refine am_iload1 hC dX4_writeDigitsOfLeft_73 ?_
      refine am_if_le hC 93 dX4_writeDigitsOfLeft_74 rfl (by omega) (fun c74 => ?_) (fun c74 => ?_)
      · refine am_iload1 hC dX4_writeDigitsOfLeft_93 ?_
        refine am_if_ne hC 105 dX4_writeDigitsOfLeft_94 rfl (by omega) (fun c94 => ?_) (fun c94 => ?_)
        · exact absurd c94 (by omega)
        · refine am_aload0 hC dX4_writeDigitsOfLeft_97 ?_
          refine am_iconst hC dX4_writeDigitsOfLeft_98 ?_
          refine am_iconst hC dX4_writeDigitsOfLeft_99 ?_
          refine am_V2_qN hC 4 dX4_writeDigitsOfLeft_100 kX4_242 (m_setDigit _ _ v e14 (by omega)) v.1 rfl (Nat.le_of_ble_eq_true rfl) (by decide) (by omega) (by omega) (fun H1 r => ?_)
          have g1 : gx H H1 [23] := by rw [r]; exact gx_up _ _ _
          have v1 := v.dg (by omega) r
          have N : H1.2 23 = _ := (congrArg (fun H => H.2 23) r).trans (am_up_at _ _ _)
          refine am_iconst hC dX4_writeDigitsOfLeft_103 ?_
          exact am_iret hC hT dX4_writeDigitsOfLeft_104 (by omega) (by omega) ⟨_, rfl, by rw [d1]; rfl, by omega, v1, ⟨_, N, fun j hj => by rw [d1] at hj; rw [show j = 0 by omega, a0]; rfl⟩, o.tr (g1.wk (by simp))⟩
      · exact absurd c74 (by omega)
    | succ n ih =>
      intro H f t2 y3 y4 y5 hn v o e14 q hf
      have b1 := o.1
      have k0 := v.1
      have fn := hf n (by omega)
      have dm : a / 10 ^ n < 10 := by rw [Nat.div_lt_iff_lt_mul (Nat.pow_pos (by decide)), Nat.mul_comm, ← Nat.pow_succ]; exact q
      rw [Nat.mod_eq_of_lt dm] at fn
      obtain ⟨dq, hdq⟩ : ∃ dq, dq = a / 10 ^ n := ⟨_, rfl⟩
      rw [← hdq] at dm fn
      refine am_iload1 hC dX4_writeDigitsOfLeft_73 ?_
      refine am_if_le hC 93 dX4_writeDigitsOfLeft_74 rfl (by omega) (fun c74 => ?_) (fun c74 => ?_)
      · exact absurd c74 (by omega)
      · refine am_aload0 hC dX4_writeDigitsOfLeft_77 ?_
        refine am_iload1 hC dX4_writeDigitsOfLeft_78 ?_
        refine am_iconst hC dX4_writeDigitsOfLeft_79 ?_
        refine am_isub hC dX4_writeDigitsOfLeft_80 ?_
        rw [show ((n + 1 : Nat) : Int) - 1 = (n : Int) by omega]
        refine am_V1_pI hC 4 dX4_writeDigitsOfLeft_81 kX4_199 (m_getDigit _ _ v e14 (by omega)) k0 rfl (Nat.le_of_ble_eq_true rfl) (by decide) (by omega) (by omega) ?_
        rw [Int.toNat_natCast, fn]
        refine am_if_ne hC 93 dX4_writeDigitsOfLeft_84 rfl (by omega) (fun c84 => ?_) (fun c84 => ?_)
        · refine am_iload1 hC dX4_writeDigitsOfLeft_93 ?_
          refine am_if_ne hC 105 dX4_writeDigitsOfLeft_94 rfl (by omega) (fun c94 => ?_) (fun c94 => ?_)
          · refine am_iload1 hC dX4_writeDigitsOfLeft_105 ?_
            have dl : dlen a = n + 1 := dlen_of (n + 1) a q (by
              rcases Nat.eq_zero_or_pos n with c | c
              · exact Or.inl (by omega)
              · exact Or.inr ⟨by omega, by rw [show n + 1 - 1 = n by omega, ← hdq]; omega⟩)
            exact am_iret hC hT dX4_writeDigitsOfLeft_106 (by omega) (by omega) ⟨_, rfl, by rw [dl], by omega, v, ⟨f, e14, fun j hj => hf j (by omega)⟩, o⟩
          · exact absurd c94 (by omega)
        · refine am_iinc1 hC dX4_writeDigitsOfLeft_87 rfl ?_
          refine am_goto hC 73 dX4_writeDigitsOfLeft_90 rfl ?_
          rw [show ((n + 1 : Nat) : Int) + -1 = (n : Int) by omega]
          refine ih H f t2 _ _ _ (by omega) v o e14 ?_ (fun j hj => hf j (by omega))
          have z : a / 10 ^ n = 0 := by rw [← hdq]; omega
          rcases Nat.lt_or_ge a (10 ^ n) with d | d
          · exact d
          · have := Nat.div_pos d (Nat.pow_pos (by decide)); omega
  have inner : ∀ (m i gr rest0 : Nat) (H : am_H) (f : Nat → Int), i + m = 9 → gr < 27 → rest0 = a / 10 ^ (9 * gr) % 1000000000 → kS H s → gx h H [19, 20, 23] → wN H 19 56 (a / 10 ^ (9 * (gr + 1))) → H.2 23 = some (eI 243 f) → (∀ j, j < 9 * gr + i → f j = ((a / 10 ^ j % 10 : Nat) : Int)) →
      (∀ (H1 : am_H) (f1 : Nat → Int) (y3 y4 y5 : Option Value), kS H1 s → gx h H1 [19, 20, 23] → wN H1 19 56 (a / 10 ^ (9 * (gr + 1))) → H1.2 23 = some (eI 243 f1) → (∀ j, j < 9 * (gr + 1) → f1 j = ((a / 10 ^ j % 10 : Nat) : Int)) → am_W x 4 0 0 H1 [some (.ref 0), some (vI ((9 * (gr + 1) : Nat) : Int)), some (vI ((gr + 1 : Nat) : Int)), y3, y4, y5] []) →
      am_W x 34 0 0 H [some (.ref 0), some (vI ((9 * gr + i : Nat) : Int)), some (vI (gr : Int)), some (vL ((rest0 / 10 ^ i : Nat) : Int)), none, some (vI (i : Int))] [] := by
    intro m
    induction m with
    | zero =>
      intro i gr rest0 H f hi hg hr v o wn e14 hf kk
      rw [show 9 * gr + i = 9 * (gr + 1) by omega] at hf ⊢
      refine am_iload5 hC dX4_writeDigitsOfLeft_34 ?_
      refine am_bipush hC dX4_writeDigitsOfLeft_36 rfl ?_
      refine am_icmp_ge hC 67 dX4_writeDigitsOfLeft_38 rfl (by omega) (by omega) (fun c38 => ?_) (fun c38 => ?_)
      · refine am_iinc2 hC dX4_writeDigitsOfLeft_67 rfl ?_
        refine am_goto hC 4 dX4_writeDigitsOfLeft_70 rfl ?_
        rw [show (gr : Int) + 1 = ((gr + 1 : Nat) : Int) by omega]
        exact kk H f _ _ _ v o wn e14 hf
      · exact absurd c38 (by omega)
    | succ m ih =>
      intro i gr rest0 H f hi hg hr v o wn e14 hf kk
      have b1 := o.1
      have k0 := v.1
      have rl : rest0 < 1000000000 := by rw [hr]; exact Nat.mod_lt _ (by decide)
      have rq := Nat.div_le_self rest0 (10 ^ i)
      obtain ⟨q, hq⟩ : ∃ q, q = rest0 / 10 ^ i := ⟨_, rfl⟩
      have qe : q % 10 = a / 10 ^ (9 * gr + i) % 10 := by
        rw [hq, hr, show (1000000000 : Nat) = 10 ^ i * (10 * 10 ^ m) by rw [← Nat.pow_succ', ← Nat.pow_add, show i + (m + 1) = 9 by omega], Nat.mod_mul_right_div_self, Nat.mod_mul_right_mod, Nat.div_div_eq_div_mul, ← Nat.pow_add]
      have qn : q / 10 = rest0 / 10 ^ (i + 1) := by rw [hq, Nat.div_div_eq_div_mul, ← Nat.pow_succ]
      have tm : ((q : Nat) : Int).tmod 10 = ((q % 10 : Nat) : Int) := by rw [Int.tmod_eq_emod_of_nonneg (by omega)]; rfl
      have td : ((q : Nat) : Int).tdiv 10 = ((q / 10 : Nat) : Int) := by rw [Int.tdiv_eq_ediv_of_nonneg (by omega)]; rfl
      rw [← hq] at rq ⊢
      refine am_iload5 hC dX4_writeDigitsOfLeft_34 ?_
      refine am_bipush hC dX4_writeDigitsOfLeft_36 rfl ?_
      refine am_icmp_ge hC 67 dX4_writeDigitsOfLeft_38 rfl (by omega) (by omega) (fun c38 => ?_) (fun c38 => ?_)
      · exact absurd c38 (by omega)
      · refine am_aload0 hC dX4_writeDigitsOfLeft_41 ?_
        refine am_iload1 hC dX4_writeDigitsOfLeft_42 ?_
        refine am_lload3 hC dX4_writeDigitsOfLeft_43 ?_
        refine am_ldc2 hC (10) dX4_writeDigitsOfLeft_44 cX4_240 rfl ?_
        refine am_lrem hC dX4_writeDigitsOfLeft_47 (by omega) (by omega) (by omega) ?_
        rw [tm]
        refine am_l2i hC dX4_writeDigitsOfLeft_48 ?_
        refine am_V2_qN hC 4 dX4_writeDigitsOfLeft_49 kX4_242 (m_setDigit _ _ v e14 (by omega)) k0 rfl (Nat.le_of_ble_eq_true rfl) (by decide) (by omega) (by omega) (fun H1 r => ?_)
        rw [Int.toNat_natCast] at r
        have g1 : gx H H1 [23] := by rw [r]; exact gx_up _ _ _
        have v1 := v.dg (by omega) r
        have N : H1.2 23 = _ := (congrArg (fun H => H.2 23) r).trans (am_up_at _ _ _)
        clear r
        refine am_lload3 hC dX4_writeDigitsOfLeft_52 ?_
        refine am_ldc2 hC (10) dX4_writeDigitsOfLeft_53 cX4_240 rfl ?_
        refine am_ldiv hC dX4_writeDigitsOfLeft_56 (by omega) (by omega) (by omega) ?_
        rw [td, qn]
        refine am_lstore3 hC dX4_writeDigitsOfLeft_57 rfl ?_
        refine am_iinc1 hC dX4_writeDigitsOfLeft_58 rfl ?_
        refine am_iinc5 hC dX4_writeDigitsOfLeft_61 rfl ?_
        refine am_goto hC 34 dX4_writeDigitsOfLeft_64 rfl ?_
        rw [show ((9 * gr + i : Nat) : Int) + 1 = ((9 * gr + (i + 1) : Nat) : Int) by omega, show (i : Int) + 1 = ((i + 1 : Nat) : Int) by omega]
        refine ih (i + 1) gr rest0 H1 _ (by omega) hg hr v1 (o.tr (g1.wk (by simp))) (wn.gx g1 (by omega) (by simp) (by simp)) N (fun j hj => ?_) kk
        unfold am_fu
        by_cases c : j = 9 * gr + i
        · rw [if_pos c, c, qe]
        · rw [if_neg c]; exact hf j (by omega)
  have outer : ∀ (m gr : Nat) (H : am_H) (f : Nat → Int) (y3 y4 y5 : Option Value), gr + m = 27 → kS H s → gx h H [19, 20, 23] → wN H 19 56 (a / 10 ^ (9 * gr)) → H.2 23 = some (eI 243 f) → (∀ j, j < 9 * gr → f j = ((a / 10 ^ j % 10 : Nat) : Int)) → am_W x 4 0 0 H [some (.ref 0), some (vI ((9 * gr : Nat) : Int)), some (vI (gr : Int)), y3, y4, y5] [] := by
    intro m
    induction m with
    | zero =>
      intro gr H f y3 y4 y5 hg v o wn e14 hf
      refine am_iload2 hC dX4_writeDigitsOfLeft_4 ?_
      refine am_bipush hC dX4_writeDigitsOfLeft_5 rfl ?_
      refine am_icmp_ge hC 73 dX4_writeDigitsOfLeft_7 rfl (by omega) (by omega) (fun c7 => ?_) (fun c7 => ?_)
      · exact trim (9 * gr) H f _ _ _ _ (by omega) v o e14 (by rw [show 9 * gr = 243 by omega]; exact al) hf
      · exact absurd c7 (by omega)
    | succ m ih =>
      intro gr H f y3 y4 y5 hg v o wn e14 hf
      have b1 := o.1
      have k0 := v.1
      have x8 := v.2.2.2.2.2.2.1
      by_cases z : a / 10 ^ (9 * gr) = 0
      · have az : a < 10 ^ (9 * gr) := by
          rcases Nat.lt_or_ge a (10 ^ (9 * gr)) with d | d
          · exact d
          · have := Nat.div_pos d (Nat.pow_pos (by decide)); omega
        refine am_iload2 hC dX4_writeDigitsOfLeft_4 ?_
        refine am_bipush hC dX4_writeDigitsOfLeft_5 rfl ?_
        refine am_icmp_ge hC 73 dX4_writeDigitsOfLeft_7 rfl (by omega) (by omega) (fun c7 => ?_) (fun c7 => ?_)
        · exact absurd c7 (by omega)
        · refine am_aload0 hC dX4_writeDigitsOfLeft_10 ?_
          refine am_getf hC dX4_writeDigitsOfLeft_11 fX4_49 k0 rfl ?_
          refine am_V0_pI hC 3 dX4_writeDigitsOfLeft_14 kX4_216 (m_isZero _ _ wn rfl) wn.o rfl (Nat.le_of_ble_eq_true rfl) (by decide) (by omega) (by omega) ?_
          rw [if_pos z]
          refine am_if_ne hC 73 dX4_writeDigitsOfLeft_17 rfl (by omega) (fun c17 => ?_) (fun c17 => ?_)
          · exact trim (9 * gr) H f _ _ _ _ (by omega) v o e14 az hf
          · exact absurd c17 (by omega)
      · have e9 : a / 10 ^ (9 * gr) / 1000000000 = a / 10 ^ (9 * (gr + 1)) := by rw [show (1000000000 : Nat) = 10 ^ 9 from rfl, Nat.div_div_eq_div_mul, ← Nat.pow_add, show 9 * gr + 9 = 9 * (gr + 1) by omega]
        refine am_iload2 hC dX4_writeDigitsOfLeft_4 ?_
        refine am_bipush hC dX4_writeDigitsOfLeft_5 rfl ?_
        refine am_icmp_ge hC 73 dX4_writeDigitsOfLeft_7 rfl (by omega) (by omega) (fun c7 => ?_) (fun c7 => ?_)
        · exact absurd c7 (by omega)
        · refine am_aload0 hC dX4_writeDigitsOfLeft_10 ?_
          refine am_getf hC dX4_writeDigitsOfLeft_11 fX4_49 k0 rfl ?_
          refine am_V0_pI hC 3 dX4_writeDigitsOfLeft_14 kX4_216 (m_isZero _ _ wn rfl) wn.o rfl (Nat.le_of_ble_eq_true rfl) (by decide) (by omega) (by omega) ?_
          rw [if_neg z]
          refine am_if_ne hC 73 dX4_writeDigitsOfLeft_17 rfl (by omega) (fun c17 => ?_) (fun c17 => ?_)
          · exact absurd c17 (by omega)
          · refine am_aload0 hC dX4_writeDigitsOfLeft_20 ?_
            refine am_getf hC dX4_writeDigitsOfLeft_21 fX4_49 k0 rfl ?_
            refine am_ldc2 hC (1000000000) dX4_writeDigitsOfLeft_24 cX4_171 rfl ?_
            refine am_V1_qL hC 3 dX4_writeDigitsOfLeft_27 kX4_236 (m_takeQuotient _ _ (d := 1000000000) wn (by decide) (by decide)) wn.o rfl (Nat.le_of_ble_eq_true rfl) (by decide) (by omega) (by omega) (fun rv H1 r => ?_)
            obtain ⟨erv, w1, o1⟩ := r
            rw [e9] at w1
            have v1 := v.w (by omega) o1 w1.cc (by omega)
            have N : H1.2 23 = some (eI 243 f) := by rw [o1.2 _ (by simp)]; exact e14
            refine am_lstore3 hC dX4_writeDigitsOfLeft_30 rfl ?_
            refine am_iconst hC dX4_writeDigitsOfLeft_31 ?_
            refine am_istore5 hC dX4_writeDigitsOfLeft_32 rfl ?_
            rw [erv]
            have := inner 9 0 gr (a / 10 ^ (9 * gr) % 1000000000) H1 f rfl (by omega) rfl v1 (o.tr (o1.gx.wk (by simp))) w1 N hf (fun H2 f2 y3 y4 y5 q1 q2 q3 q4 q5 => ih (gr + 1) H2 f2 y3 y4 y5 (by omega) q1 q2 q3 q4 q5)
            rw [Nat.pow_zero, Nat.div_one] at this
            exact this
  obtain ⟨f0, e0⟩ := w.2.2.2.2.2.2.2.2.2.1
  refine am_iconst hC dX4_writeDigitsOfLeft_0 ?_
  refine am_istore1 hC dX4_writeDigitsOfLeft_1 rfl ?_
  refine am_iconst hC dX4_writeDigitsOfLeft_2 ?_
  refine am_istore2 hC dX4_writeDigitsOfLeft_3 rfl ?_
  exact outer 27 0 h f0 _ _ _ rfl w (gx.rf _ _) (by rw [Nat.mul_zero, Nat.pow_zero, Nat.div_one]; exact wl) e0 (fun j hj => by omega)
def okD (part : Int) : Prop := 0 ≤ part ∧ part ≤ 1
theorem m_digit (l : Launch) (g : am_G) {h : am_H} {s : aS} {i part j : Int} (hst : l.stackTraces = false) (w : kS h s) (h47 : 51 ≤ h.1) (ok : aOK s) (hi : IR i) (hp : IR part) (hj : IR j) :
    am_MetX l g yX4_digit (am_W1 yX4_digit cX4_digit 6 (some .int)) 8 2 12 [.ref 0, vI i, vI part, vI j] h (qI fun v h1 => okV i ∧ okD part ∧ (0 ≤ j ∧ j < (dlen (aPart s i.toNat part) : Int)) ∧ v = aDigit (aPart s i.toNat part) j.toNat ∧ kS h1 s ∧ gx h h1 K39) (xK h s (fun E => (E = am_AIO ∧ ¬ okV i) ∨ (E = am_IAE ∧ okV i ∧ ¬ okD part) ∨ (E = am_AIO ∧ okV i ∧ okD part ∧ ¬ (0 ≤ j ∧ j < (dlen (aPart s i.toNat part) : Int))))) := by
  have h0 := w.1
  refine am_mkX [some (.ref 0), some (vI i), some (vI part), some (vI j), none, none] 2 hst rfl rfl (by decide +kernel) (fun x hl hg hC hT hTX => ?_)
  have rest : ∀ (k z r1 fa ca A : Nat) (t : Int), k ≤ 1 → z ≤ 6 → okV i → okD part → A = aPart s i.toNat part → bl A ≤ 800 → wN h fa ca A → am_W x 47 k z h [some (.ref 0), some (vI i), some (vI part), some (vI j), some (.ref r1), none] [.ref fa, .ref 19] := by
    intro k z r1 fa ca A t hk hz oi op hA bA wA
    have t8 := w.2.2.2.2.2.2.1
    have ⟨n8, e8⟩ := t8.o
    have cA := cap800 bA
    rw [← hA] at hT hTX
    refine am_V1_qN hC 3 dX4_digit_47 kX4_156 (m_become _ _ t8 wA (by omega)) e8 rfl (Nat.le_of_ble_eq_true rfl) (by decide) (by omega) (by omega) (fun h1 r => ?_)
    obtain ⟨w1, o1⟩ := r
    have v1 := w.w (by omega) o1 w1.cc (by omega)
    have k1 := v1.1
    have H1 : h1.1 = h.1 := o1.1
    refine am_aload0 hC dX4_digit_50 ?_
    refine am_V0_qI hC 4 dX4_digit_51 kX4_193 (m_writeDigits _ _ v1 (by omega) w1 bA) k1 rfl (Nat.le_of_ble_eq_true rfl) (by decide) (by omega) (by omega) (fun v h2 r => ?_)
    obtain ⟨ev, dl, v2, ⟨f, e14, hf⟩, g2⟩ := r
    rw [ev]
    have k2 := v2.1
    have G2 : gx h h2 K39 := (o1.gx.wk (by simp)).tr (g2.wk (by simp))
    have dp : 1 ≤ dlen A := by
      rcases Nat.lt_or_ge A 10 with c | c
      · rw [dlen_lt c]; omega
      · rw [dlen_ge c]; omega
    refine am_istore5 hC dX4_digit_54 rfl ?_
    refine am_iload3 hC dX4_digit_56 ?_
    refine am_if_lt hC 66 dX4_digit_57 rfl (by omega) (fun c57 => ?_) (fun c57 => ?_)
    · exact am_throw hC hTX tX4_139_197_143 dX4_digit_66 dX4_digit_69 dX4_digit_70 dX4_digit_72 dX4_digit_75 (by decide) (by decide) (by omega) (by omega) (fun n1 hn => ⟨Or.inr (Or.inr ⟨rfl, oi, op, by omega⟩), v2.gr hn, G2.tr (gx_gr h2 hn _)⟩)
    · refine am_iload3 hC dX4_digit_60 ?_
      refine am_iload5 hC dX4_digit_61 ?_
      refine am_icmp_lt hC 76 dX4_digit_63 rfl (by omega) (by omega) (fun c63 => ?_) (fun c63 => ?_)
      · refine am_aload0 hC dX4_digit_76 ?_
        refine am_iload5 hC dX4_digit_77 ?_
        refine am_iconst hC dX4_digit_79 ?_
        refine am_isub hC dX4_digit_80 ?_
        refine am_iload3 hC dX4_digit_81 ?_
        refine am_isub hC dX4_digit_82 ?_
        refine am_V1_pI hC 4 dX4_digit_83 kX4_199 (m_getDigit _ _ v2 e14 (by omega)) k2 rfl (Nat.le_of_ble_eq_true rfl) (by decide) (by omega) (by omega) ?_
        exact am_iret hC hT dX4_digit_86 (by omega) (by omega) ⟨_, rfl, oi, op, ⟨by omega, by omega⟩, by rw [hf _ (by omega), aDigit, show ((dlen A : Int) - 1 - j).toNat = dlen A - 1 - j.toNat by omega], v2, G2⟩
      · exact am_throw hC hTX tX4_139_197_143 dX4_digit_66 dX4_digit_69 dX4_digit_70 dX4_digit_72 dX4_digit_75 (by decide) (by decide) (by omega) (by omega) (fun n1 hn => ⟨Or.inr (Or.inr ⟨rfl, oi, op, by omega⟩), v2.gr hn, G2.tr (gx_gr h2 hn _)⟩)
  refine am_aload0 hC dX4_digit_0 ?_
  refine am_iload1 hC dX4_digit_1 ?_
  refine am_xV1_qA hC 4 hTX dX4_digit_2 kX4_87 (m_fractionAt _ _ (by rw [hl]; exact hst) w hi) h0 rfl (Nat.le_of_ble_eq_true rfl) (by decide) (by omega) (by omega) (xK.wk (gx.rf _ _) (fun E q => Or.inl q)) (fun r1 hx1 q => ?_)
  obtain ⟨e, oi, r1a, r1b, F⟩ := q
  rw [e]
  clear e hx1
  have ku := ok.2.1 i.toNat (by have := oi.2; have := oi.1; omega)
  have F1 := F.1
  refine am_astore4 hC dX4_digit_5 rfl ?_
  refine am_iload2 hC dX4_digit_7 ?_
  refine am_if_eq hC 26 dX4_digit_8 rfl (by omega) (fun c8 => ?_) (fun c8 => ?_)
  · refine am_aload0 hC dX4_digit_26 ?_
    refine am_getf hC dX4_digit_27 fX4_49 h0 rfl ?_
    refine am_iload2 hC dX4_digit_30 ?_
    refine am_if_ne hC 42 dX4_digit_31 rfl (by omega) (fun c31 => ?_) (fun c31 => ?_)
    · refine am_aload4 hC dX4_digit_42 ?_
      refine am_getf hC dX4_digit_44 fX4_94 F1 rfl ?_
      first
        | exact rest _ _ _ _ _ _ 0 (by omega) (by omega) oi ⟨by omega, by omega⟩ (by rw [aPart, if_pos (by omega)]) ku.2.2.2.1 F.2.1
        | exact rest _ _ _ _ _ _ 0 (by omega) (by omega) oi ⟨by omega, by omega⟩ (by rw [aPart, if_neg (by omega)]) ku.2.2.2.2 F.2.2
    · refine am_aload4 hC dX4_digit_34 ?_
      refine am_getf hC dX4_digit_36 fX4_91 F1 rfl ?_
      refine am_goto hC 47 dX4_digit_39 rfl ?_
      first
        | exact rest _ _ _ _ _ _ 0 (by omega) (by omega) oi ⟨by omega, by omega⟩ (by rw [aPart, if_pos (by omega)]) ku.2.2.2.1 F.2.1
        | exact rest _ _ _ _ _ _ 0 (by omega) (by omega) oi ⟨by omega, by omega⟩ (by rw [aPart, if_neg (by omega)]) ku.2.2.2.2 F.2.2
  · refine am_iload2 hC dX4_digit_11 ?_
    refine am_iconst hC dX4_digit_12 ?_
    refine am_icmp_eq hC 26 dX4_digit_13 rfl (by omega) (by omega) (fun c13 => ?_) (fun c13 => ?_)
    · refine am_aload0 hC dX4_digit_26 ?_
      refine am_getf hC dX4_digit_27 fX4_49 h0 rfl ?_
      refine am_iload2 hC dX4_digit_30 ?_
      refine am_if_ne hC 42 dX4_digit_31 rfl (by omega) (fun c31 => ?_) (fun c31 => ?_)
      · refine am_aload4 hC dX4_digit_42 ?_
        refine am_getf hC dX4_digit_44 fX4_94 F1 rfl ?_
        first
          | exact rest _ _ _ _ _ _ 0 (by omega) (by omega) oi ⟨by omega, by omega⟩ (by rw [aPart, if_pos (by omega)]) ku.2.2.2.1 F.2.1
          | exact rest _ _ _ _ _ _ 0 (by omega) (by omega) oi ⟨by omega, by omega⟩ (by rw [aPart, if_neg (by omega)]) ku.2.2.2.2 F.2.2
      · refine am_aload4 hC dX4_digit_34 ?_
        refine am_getf hC dX4_digit_36 fX4_91 F1 rfl ?_
        refine am_goto hC 47 dX4_digit_39 rfl ?_
        first
          | exact rest _ _ _ _ _ _ 0 (by omega) (by omega) oi ⟨by omega, by omega⟩ (by rw [aPart, if_pos (by omega)]) ku.2.2.2.1 F.2.1
          | exact rest _ _ _ _ _ _ 0 (by omega) (by omega) oi ⟨by omega, by omega⟩ (by rw [aPart, if_neg (by omega)]) ku.2.2.2.2 F.2.2
    · exact am_throw hC hTX tX4_115_191_119 dX4_digit_16 dX4_digit_19 dX4_digit_20 dX4_digit_22 dX4_digit_25 (by decide) (by decide) (by omega) (by omega) (fun n1 hn => ⟨Or.inr (Or.inl ⟨rfl, oi, by unfold okD; omega⟩), w.gr hn, gx_gr h hn _⟩)

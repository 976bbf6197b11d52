/-! Whole: limb, setLimb, settle: what they do to the two cells -/
abbrev IR (a : Int) : Prop := -2147483648 ≤ a ∧ a ≤ 2147483647
/-- the object i: its limbs' row stands next to it -/
def wO (h : am_H) (i : Nat) (n : Int) (c : Nat) (f : Nat → Int) : Prop := h.2 i = some (eO 3 [.ref (i + 1), vI n]) ∧ h.2 (i + 1) = some (eL c f)
def LV (h : am_H) (i : Nat) (j v : Int) : Prop := ∃ (n : Int) (c : Nat) (f : Nat → Int), wO h i n c f ∧ IR n ∧ c ≤ 100000 ∧ (if 0 ≤ j ∧ j < n ∧ j < c then f j.toNat else 0) = v
theorem m_limb (l : Launch) (g : am_G) {h : am_H} {i : Nat} {j v : Int} (hv : LV h i j v) (hj : IR j) : am_Met l g yX3_limb (am_W1 yX3_limb cX3_limb 2 (some .long)) 1 0 0 [.ref i, vI j] h (pL v h) := by
  obtain ⟨n, c, f, ⟨h0, h1⟩, hn, hc, hv⟩ := hv
  refine am_mk [some (.ref i), some (vI j)] 0 rfl rfl (by decide +kernel) (fun x hl hg hC hT _ => ?_)
  have out : ¬ (0 ≤ j ∧ j < n ∧ j < c) → am_W x 30 0 0 h [some (.ref i), some (vI j)] [] := by
    intro q
    rw [if_neg q] at hv
    refine am_lconst0 hC dX3_limb_30 ?_
    exact am_lret hC hT dX3_limb_31 (Nat.le_refl _) (Nat.le_refl _) ⟨sL hv, rfl⟩
  refine am_iload1 hC dX3_limb_0 ?_
  refine am_if_lt hC 30 dX3_limb_1 rfl (by omega) (fun c1 => ?_) (fun c1 => ?_)
  · exact out (by omega)
  · refine am_iload1 hC dX3_limb_4 ?_
    refine am_aload0 hC dX3_limb_5 ?_
    refine am_getf hC dX3_limb_6 fX3_26 h0 rfl ?_
    refine am_icmp_ge hC 30 dX3_limb_9 rfl (by omega) (by omega) (fun c9 => ?_) (fun c9 => ?_)
    · exact out (by omega)
    · refine am_iload1 hC dX3_limb_12 ?_
      refine am_aload0 hC dX3_limb_13 ?_
      refine am_getf hC dX3_limb_14 fX3_15 h0 rfl ?_
      refine am_alenL hC dX3_limb_17 h1 ?_
      refine am_icmp_ge hC 30 dX3_limb_18 rfl (by omega) (by omega) (fun c18 => ?_) (fun c18 => ?_)
      · exact out (by omega)
      · refine am_aload0 hC dX3_limb_21 ?_
        refine am_getf hC dX3_limb_22 fX3_15 h0 rfl ?_
        refine am_iload1 hC dX3_limb_25 ?_
        refine am_lald hC dX3_limb_26 h1 (by omega) (by omega) ?_
        refine am_goto hC 31 dX3_limb_27 rfl ?_
        rw [if_pos (by omega)] at hv
        exact am_lret hC hT dX3_limb_31 (Nat.le_refl _) (Nat.le_refl _) ⟨sL hv, rfl⟩
theorem r_limb {x : am_X} {cc : ByteArray} {own : String} {n mc ms : Nat} (hC : am_C x cc own n mc ms) {pc k z : Nat} {h : am_H} {ls : List (Option Value)} {st : List Value} {idx i : Nat} {j v : Int} (d : decode cc pc = .ok (.invokevirtual idx, 3)) (hK : am_KV own idx yX3_limb cX3_limb 2 (some .long) 1) (hv : LV h i j v) (hj : IR j) (hst : (st.map fun v => v.category).sum ≤ 8) (hn : 2 ≤ n) (hk : k ≤ mc) (hz : z ≤ ms) (kk : am_W x (pc + 3) k z h ls (vL v :: st)) : am_W x pc k z h ls (vI j :: .ref i :: st) :=
  am_V1_pL hC 3 d hK (m_limb _ _ hv hj) hv.choose_spec.choose_spec.choose_spec.1.1 rfl hst hn hk hz kk
theorem m_setLimb (l : Launch) (g : am_G) {h : am_H} {i c : Nat} {n j v : Int} {f : Nat → Int} (h0 : wO h i n c f) (hc : c ≤ 100000) (hj : 0 ≤ j ∧ j < c) : am_Met l g yX3_setLimb (am_W1 yX3_setLimb cX3_setLimb 4 none) 1 0 0 [.ref i, vI j, vL v] h (qN fun h1 => h1 = am_up h (i + 1) (eL c (am_fu f j.toNat v))) := by
  obtain ⟨h0, h1⟩ := h0
  refine am_mk [some (.ref i), some (vI j), some (vL v), none] 0 rfl rfl (by decide +kernel) (fun x hl hg hC hT _ => ?_)
  refine am_iload1 hC dX3_setLimb_0 ?_
  refine am_if_lt hC 20 dX3_setLimb_1 rfl (by omega) (fun c1 => ?_) (fun c1 => ?_)
  · exact absurd c1 (by omega)
  · refine am_iload1 hC dX3_setLimb_4 ?_
    refine am_aload0 hC dX3_setLimb_5 ?_
    refine am_getf hC dX3_setLimb_6 fX3_15 h0 rfl ?_
    refine am_alenL hC dX3_setLimb_9 h1 ?_
    refine am_icmp_ge hC 20 dX3_setLimb_10 rfl (by omega) (by omega) (fun c10 => ?_) (fun c10 => ?_)
    · exact absurd c10 (by omega)
    · refine am_aload0 hC dX3_setLimb_13 ?_
      refine am_getf hC dX3_setLimb_14 fX3_15 h0 rfl ?_
      refine am_iload1 hC dX3_setLimb_17 ?_
      refine am_lload2 hC dX3_setLimb_18 ?_
      refine am_last hC dX3_setLimb_19 h1 (by omega) (by omega) ?_
      exact am_vret hC hT dX3_setLimb_20 (Nat.le_refl _) (Nat.le_refl _) ⟨rfl, rfl⟩
theorem r_setLimb {x : am_X} {cc : ByteArray} {own : String} {n mc ms : Nat} (hC : am_C x cc own n mc ms) {pc k z : Nat} {h : am_H} {ls : List (Option Value)} {st : List Value} {idx i c : Nat} {n0 j v : Int} {f : Nat → Int} (d : decode cc pc = .ok (.invokevirtual idx, 3)) (hK : am_KV own idx yX3_setLimb cX3_setLimb 4 none 2) (h0 : wO h i n0 c f) (hc : c ≤ 100000) (hj : 0 ≤ j ∧ j < c) (hst : (st.map fun v => v.category).sum ≤ 8) (hn : 2 ≤ n) (hk : k ≤ mc) (hz : z ≤ ms) (kk : am_W x (pc + 3) k z (am_up h (i + 1) (eL c (am_fu f j.toNat v))) ls st) : am_W x pc k z h ls (vL v :: vI j :: .ref i :: st) :=
  am_V2_qN hC 3 d hK (m_setLimb _ _ h0 hc hj) h0.1 rfl hst hn hk hz (fun h1 q => by subst q; exact kk)
theorem m_setLimb_out (l : Launch) (g : am_G) {h : am_H} {i c : Nat} {n j v : Int} {f : Nat → Int} (h0 : wO h i n c f) (hc : c ≤ 100000) (hj : IR j) (hj2 : j < 0 ∨ (c : Int) ≤ j) : am_Met l g yX3_setLimb (am_W1 yX3_setLimb cX3_setLimb 4 none) 1 0 0 [.ref i, vI j, vL v] h (qN fun h1 => h1 = h) := by
  obtain ⟨h0, h1⟩ := h0
  refine am_mk [some (.ref i), some (vI j), some (vL v), none] 0 rfl rfl (by decide +kernel) (fun x hl hg hC hT _ => ?_)
  refine am_iload1 hC dX3_setLimb_0 ?_
  refine am_if_lt hC 20 dX3_setLimb_1 rfl (by omega) (fun c1 => ?_) (fun c1 => ?_)
  · exact am_vret hC hT dX3_setLimb_20 (Nat.le_refl _) (Nat.le_refl _) ⟨rfl, rfl⟩
  · refine am_iload1 hC dX3_setLimb_4 ?_
    refine am_aload0 hC dX3_setLimb_5 ?_
    refine am_getf hC dX3_setLimb_6 fX3_15 h0 rfl ?_
    refine am_alenL hC dX3_setLimb_9 h1 ?_
    refine am_icmp_ge hC 20 dX3_setLimb_10 rfl (by omega) (by omega) (fun c10 => ?_) (fun c10 => ?_)
    · exact am_vret hC hT dX3_setLimb_20 (Nat.le_refl _) (Nat.le_refl _) ⟨rfl, rfl⟩
    · exact absurd c10 (by omega)
theorem m_settle (l : Launch) (g : am_G) {h : am_H} {i c a : Nat} {n u : Int} {f : Nat → Int} (h0 : wO h i n c f) (hc : c ≤ 100000) (hu : IR u) (m0 : Nat) (hw : min u (c : Int) = m0) (ha : a < 2147483648 ^ m0) (hf : ∀ j : Nat, j < m0 → f j = (dg a j : Int)) : am_Met l g yX3_settle (am_W1 yX3_settle cX3_settle 3 none) 2 0 0 [.ref i, vI u] h (qN fun h1 => h1 = am_up h i (eO 3 [.ref (i + 1), vI (szn a : Int)])) := by
  obtain ⟨h0, h1⟩ := h0
  refine am_mk [some (.ref i), some (vI u), none] 1 rfl rfl (by decide +kernel) (fun x hl hg hC hT _ => ?_)
  have fin : ∀ m : Nat, m ≤ m0 → a < 2147483648 ^ m → (m = 0 ∨ dg a (m - 1) ≠ 0) → am_W x 42 0 0 h [some (.ref i), some (vI u), some (vI m)] [] := by
    intro m hm ha2 hd
    have e := szn_of ha2 hd
    refine am_aload0 hC dX3_settle_42 ?_
    refine am_iload2 hC dX3_settle_43 ?_
    refine am_iconst hC dX3_settle_44 ?_
    refine am_S2_pI hC dX3_settle_45 kX3_9 (m_max _ _ _ (by omega) (by omega)) (Nat.le_of_ble_eq_true rfl) (by decide) (Nat.le_refl _) (Nat.le_refl _) ?_
    rw [show max (m : Int) 0 = (szn a : Int) by omega]
    refine am_putf hC dX3_settle_48 pX3_26 (fun q => by cases q) h0 (am_fitI _) (Nat.le_of_ble_eq_true rfl) ?_
    exact am_vret hC hT dX3_settle_51 (Nat.le_refl _) (Nat.le_refl _) ⟨rfl, rfl⟩
  have loop : ∀ m : Nat, m ≤ m0 → a < 2147483648 ^ m → am_W x 10 0 0 h [some (.ref i), some (vI u), some (vI m)] [] := by
    intro m
    induction m with
    | zero =>
      intro hm ha2
      refine am_iload2 hC dX3_settle_10 ?_
      refine am_if_le hC 42 dX3_settle_11 rfl (by omega) (fun c11 => ?_) (fun c11 => ?_)
      · exact fin 0 hm ha2 (Or.inl rfl)
      · exact absurd c11 (by omega)
    | succ m ih =>
      intro hm ha2
      have hfm := hf m (by omega)
      have hdl := dg_lt a m
      refine am_iload2 hC dX3_settle_10 ?_
      refine am_if_le hC 42 dX3_settle_11 rfl (by omega) (fun c11 => ?_) (fun c11 => ?_)
      · exact absurd c11 (by omega)
      · refine am_iload2 hC dX3_settle_14 ?_
        refine am_aload0 hC dX3_settle_15 ?_
        refine am_getf hC dX3_settle_16 fX3_15 h0 rfl ?_
        refine am_alenL hC dX3_settle_19 h1 ?_
        refine am_icmp_gt hC 42 dX3_settle_20 rfl (by omega) (by omega) (fun c20 => ?_) (fun c20 => ?_)
        · exact absurd c20 (by omega)
        · refine am_aload0 hC dX3_settle_23 ?_
          refine am_getf hC dX3_settle_24 fX3_15 h0 rfl ?_
          refine am_iload2 hC dX3_settle_27 ?_
          refine am_iconst hC dX3_settle_28 ?_
          refine am_isub hC dX3_settle_29 ?_
          refine am_lald hC dX3_settle_30 h1 (by omega) (by omega) ?_
          rw [show ((m + 1 : Nat) : Int) - 1 = (m : Int) by omega, Int.toNat_natCast, hfm]
          refine am_lconst0 hC dX3_settle_31 ?_
          refine am_lif_ne hC 42 dX3_settle_32 dX3_settle_33 rfl (by omega) (by omega) (fun c33 => ?_) (fun c33 => ?_)
          · exact fin (m + 1) hm ha2 (Or.inr (by rw [Nat.add_sub_cancel]; omega))
          · refine am_iinc2 hC dX3_settle_36 rfl ?_
            refine am_goto hC 10 dX3_settle_39 rfl ?_
            rw [show ((m + 1 : Nat) : Int) + -1 = (m : Int) by omega]
            refine ih (by omega) (sh_lt0 ?_)
            have e1 := sh_dg a m
            have e2 : sh a (m + 1) = 0 := Nat.div_eq_of_lt ha2
            omega
  refine am_iload1 hC dX3_settle_0 ?_
  refine am_aload0 hC dX3_settle_1 ?_
  refine am_getf hC dX3_settle_2 fX3_15 h0 rfl ?_
  refine am_alenL hC dX3_settle_5 h1 ?_
  refine am_S2_pI hC dX3_settle_6 kX3_34 (m_min _ _ _ (by omega) (by omega)) (Nat.le_of_ble_eq_true rfl) (by decide) (Nat.le_refl _) (Nat.le_refl _) ?_
  rw [hw]
  refine am_istore2 hC dX3_settle_9 rfl ?_
  exact loop m0 (Nat.le_refl _) ha

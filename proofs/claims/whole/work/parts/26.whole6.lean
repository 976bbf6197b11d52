theorem natAbs_le63 {v : Int} (h : -9223372036854775808 ≤ v ∧ v ≤ 9223372036854775807) : v.natAbs ≤ 9223372036854775808 := by omega
theorem m_setMagnitude (l : Launch) (g : am_G) {h : am_H} {t c : Nat} {v : Int} (wt : wC h t c) (hv : -9223372036854775808 ≤ v ∧ v ≤ 9223372036854775807) (hc : szn v.natAbs ≤ c) : am_Met l g yX3_setMagnitude (am_W1 yX3_setMagnitude cX3_setMagnitude 6 none) 3 0 0 [.ref t, vL v] h (qN fun h1 => wN h1 t c v.natAbs ∧ only h h1 [t, t + 1]) := by
  obtain ⟨hcc, n0, f0, b⟩ := wt
  obtain ⟨a, ha⟩ : ∃ a, a = v.natAbs := ⟨_, rfl⟩
  have h63 := natAbs_le63 hv
  rw [← ha] at hc h63 ⊢
  have hz3 : szn a ≤ 3 := szn_le.mpr (Nat.lt_of_le_of_lt h63 (by decide))
  refine am_mk [some (.ref t), some (vL v), none, none, none, none] 3 rfl rfl (by decide +kernel) (fun y hl hg hC hT _ => ?_)
  have loop : ∀ (m k : Nat) (fk : Nat → Int), k + m = 3 → (∀ j, j < k → j < c → fk j = (dg a j : Int)) → am_W y 16 0 0 (am_up h (t + 1) (eL c fk)) [some (.ref t), some (vL v), none, some (vL (sh a k : Int)), none, some (vI (k : Int))] [] := by
    intro m
    induction m with
    | zero =>
      intro k fk hk h1
      have b2 := wC.up (f' := fk) b
      have hm : min 3 c ≤ c := Nat.min_le_right _ _
      have ha3 : a < 2147483648 ^ (min 3 c) := szn_le.mp (by omega)
      refine am_iload5 hC dX3_setMagnitude_16 ?_
      refine am_iconst hC dX3_setMagnitude_18 ?_
      refine am_icmp_ge hC 44 dX3_setMagnitude_19 rfl (by omega) (by omega) (fun c19 => ?_) (fun c19 => ?_)
      · refine am_aload0 hC dX3_setMagnitude_44 ?_
        refine am_iconst hC dX3_setMagnitude_45 ?_
        refine am_V1_qN hC 3 dX3_setMagnitude_46 kX3_53 (m_settle _ _ b2 hcc (by omega) (min 3 c) (by omega) ha3 (fun j hj => h1 j (by omega) (by omega))) b2.1 rfl (Nat.le_of_ble_eq_true rfl) (by decide) (Nat.le_refl _) (Nat.le_refl _) (fun h1 q => ?_)
        subst q
        have w := wN.fin (fk := fk) (r := a) b hcc hc (fun j hj => h1 j (by omega) (by omega))
        exact am_vret hC hT dX3_setMagnitude_49 (Nat.le_refl _) (Nat.le_refl _) ⟨rfl, w.1, w.2⟩
      · exact absurd c19 (by omega)
    | succ m ih =>
      intro k fk hk h1
      have d1 := dg_lt a k
      have e1 := sh_dg a k
      have hs : sh a k ≤ 9223372036854775808 := Nat.le_trans (Nat.div_le_self _ _) h63
      have next : ∀ f : Nat → Int, (∀ j, j < k + 1 → j < c → f j = (dg a j : Int)) → am_W y 33 0 0 (am_up h (t + 1) (eL c f)) [some (.ref t), some (vL v), none, some (vL (sh a k : Int)), none, some (vI (k : Int))] [] := by
        intro f hf
        refine am_lload3 hC dX3_setMagnitude_33 ?_
        refine am_bipush hC dX3_setMagnitude_34 rfl ?_
        refine am_lushr hC 31 dX3_setMagnitude_36 rfl (by decide) ?_
        refine am_lstore3 hC dX3_setMagnitude_37 rfl ?_
        refine am_iinc5 hC dX3_setMagnitude_38 rfl ?_
        refine am_goto hC 16 dX3_setMagnitude_41 rfl ?_
        rw [show (sh a k : Int) % 18446744073709551616 / 2 ^ 31 = (sh a (k + 1) : Int) by omega]
        exact ih (k + 1) f (by omega) hf
      by_cases q : k < c
      · refine am_iload5 hC dX3_setMagnitude_16 ?_
        refine am_iconst hC dX3_setMagnitude_18 ?_
        refine am_icmp_ge hC 44 dX3_setMagnitude_19 rfl (by omega) (by omega) (fun c19 => ?_) (fun c19 => ?_)
        · exact absurd c19 (by omega)
        · refine am_aload0 hC dX3_setMagnitude_22 ?_
          refine am_iload5 hC dX3_setMagnitude_23 ?_
          refine am_lload3 hC dX3_setMagnitude_25 ?_
          refine am_ldc2 hC (2147483647) dX3_setMagnitude_26 cX3_56 rfl ?_
          refine am_land hC 31 2147483648 dX3_setMagnitude_29 (by decide) rfl rfl ?_
          refine r_setLimb hC dX3_setMagnitude_30 kX3_49 (wC.up b) hcc (by omega) (Nat.le_of_ble_eq_true rfl) (by decide) (Nat.le_refl _) (Nat.le_refl _) ?_
          rw [am_up_up, Int.toNat_natCast]
          refine next _ (fun j hj hj2 => ?_)
          by_cases e : j = k
          · subst e; rw [am_fu_at]; omega
          · rw [am_fu_lt e]; exact h1 j (by omega) hj2
      · refine am_iload5 hC dX3_setMagnitude_16 ?_
        refine am_iconst hC dX3_setMagnitude_18 ?_
        refine am_icmp_ge hC 44 dX3_setMagnitude_19 rfl (by omega) (by omega) (fun c19 => ?_) (fun c19 => ?_)
        · exact absurd c19 (by omega)
        · refine am_aload0 hC dX3_setMagnitude_22 ?_
          refine am_iload5 hC dX3_setMagnitude_23 ?_
          refine am_lload3 hC dX3_setMagnitude_25 ?_
          refine am_ldc2 hC (2147483647) dX3_setMagnitude_26 cX3_56 rfl ?_
          refine am_land hC 31 2147483648 dX3_setMagnitude_29 (by decide) rfl rfl ?_
          refine am_V2_qN hC 3 dX3_setMagnitude_30 kX3_49 (m_setLimb_out _ _ (wC.up b) hcc (by omega) (by omega)) (wC.up b).1 rfl (Nat.le_of_ble_eq_true rfl) (by decide) (Nat.le_refl _) (Nat.le_refl _) (fun h1 q => ?_)
          subst q
          exact next fk (fun j hj hj2 => h1 j (by omega) hj2)
  refine am_lload1 hC dX3_setMagnitude_0 ?_
  refine am_lconst0 hC dX3_setMagnitude_1 ?_
  refine am_lif_ge hC 11 dX3_setMagnitude_2 dX3_setMagnitude_3 rfl (by omega) (by omega) (fun c3 => ?_) (fun c3 => ?_)
  · refine am_lload1 hC dX3_setMagnitude_11 ?_
    refine am_lstore3 hC dX3_setMagnitude_12 rfl ?_
    refine am_iconst hC dX3_setMagnitude_13 ?_
    refine am_istore5 hC dX3_setMagnitude_14 rfl ?_
    rw [show h = am_up h (t + 1) (eL c f0) from (am_up_self b.2).symm]
    have L := loop _ 0 f0 (Nat.zero_add _) (fun j hj => by omega)
    rw [sh_0] at L
    first
      | rw [show (a : Int) = v by omega] at L; exact L
      | rw [show -v = (a : Int) by omega]; exact L
  · refine am_lload1 hC dX3_setMagnitude_6 ?_
    refine am_lneg hC dX3_setMagnitude_7 ?_
    refine am_goto hC 12 dX3_setMagnitude_8 rfl ?_
    refine am_lstore3 hC dX3_setMagnitude_12 rfl ?_
    refine am_iconst hC dX3_setMagnitude_13 ?_
    refine am_istore5 hC dX3_setMagnitude_14 rfl ?_
    rw [show h = am_up h (t + 1) (eL c f0) from (am_up_self b.2).symm]
    have L := loop _ 0 f0 (Nat.zero_add _) (fun j hj => by omega)
    rw [sh_0] at L
    first
      | rw [show (a : Int) = v by omega] at L; exact L
      | rw [show -v = (a : Int) by omega]; exact L

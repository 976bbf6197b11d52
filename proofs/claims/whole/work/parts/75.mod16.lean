/-! the Model's bits, end, weight, clearWeights, turn -/
theorem eS.re {h H : am_H} {s : aS} {th th' : Int} {wd rt tw : Nat} {R E W : Nat → Int} (w : eS h s th wd R) (o : only h H [43, 48, 49]) (e0 : H.2 43 = some (rO th' wd s.1 rt tw)) (e1 : H.2 48 = some (eI 80 E)) (e2 : H.2 49 = some (eL 32 W)) : eS H (s.1, s.2.1, rt, E, tw, W) th' wd R :=
  ⟨e0, (o.2 44 (by simp)).trans w.2.1, w.2.2.1, w.2.2.2.1.on (o.2 45 (by simp)) (o.2 46 (by simp)) (o.2 47 (by simp)), e1, e2⟩
theorem rO_set9 (h : am_H) (th wd us ro to v : Int) : am_up h 43 (eO 5 ([vI th, vI wd, .ref 44, vI us, .ref 45, .ref 46, .ref 47, vI ro, .ref 48, vI to, .ref 49].set 9 (vI v))) = am_up h 43 (rO th wd us ro v) := rfl
theorem rO_set7 (h : am_H) (th wd us ro to v : Int) : am_up h 43 (eO 5 ([vI th, vI wd, .ref 44, vI us, .ref 45, .ref 46, .ref 47, vI ro, .ref 48, vI to, .ref 49].set 7 (vI v))) = am_up h 43 (rO th wd us v to) := rfl
theorem m_Mweight (l : Launch) (g : am_G) {h : am_H} {s : aS} {th v : Int} {wd : Nat} {R : Nat → Int} (w : eS h s th wd R) (ok : aOK s) (hv : -9223372036854775808 ≤ v ∧ v ≤ 9223372036854775807) :
    am_Met l g yX5_weight (am_W1 yX5_weight cX5_weight 3 (some .boolean)) 1 0 0 [.ref 43, vL v] h (qI fun r h1 => r = (aWeight s v).1 ∧ mOut h h1 0 (aWeight s v).2) := by
  have h0 := w.1
  have tw := ok.2.2.2.2.1
  refine am_mk [some (.ref 43), some (vL v), none] 0 rfl rfl (by decide +kernel) (fun x hl hg hC hT _ => ?_)
  refine am_aload0 hC dX5_weight_0 ?_
  refine am_iconst hC dX5_weight_1 ?_
  refine am_putf hC dX5_weight_2 pX5_33 (fun q => by cases q) h0 (am_fitI _) (Nat.le_of_ble_eq_true rfl) ?_
  rw [rO_set0]
  refine am_heap (fun H2 e2 => ?_)
  have v2 : eS H2 s 0 wd R ∧ only h H2 K45 := by rw [e2]; exact ⟨w.o w.2.2.1, only.o⟩
  have k2 := v2.1.1
  have k45 := v2.1.2.2.2.2.2
  clear e2
  refine am_aload0 hC dX5_weight_5 ?_
  refine am_getf hC dX5_weight_6 fX5_129 k2 rfl ?_
  refine am_bipush hC dX5_weight_9 rfl ?_
  refine am_icmp_eq hC 28 dX5_weight_11 rfl (by omega) (by omega) (fun c11 => ?_) (fun c11 => ?_)
  · have e : aWeight s v = (0, s) := by rw [aWeight, if_pos (by omega)]
    refine am_iconst hC dX5_weight_28 ?_
    exact am_zret hC hT dX5_weight_29 (by omega) (by omega) (by omega) ⟨_, rfl, by rw [e], ⟨_, _, by rw [e]; exact v2.1⟩, v2.2⟩
  · refine am_lload1 hC dX5_weight_14 ?_
    refine am_lconst0 hC dX5_weight_15 ?_
    refine am_lif_lt hC 28 dX5_weight_16 dX5_weight_17 rfl (by omega) (by omega) (fun c17 => ?_) (fun c17 => ?_)
    · have e : aWeight s v = (0, s) := by rw [aWeight, if_pos (by omega)]
      refine am_iconst hC dX5_weight_28 ?_
      exact am_zret hC hT dX5_weight_29 (by omega) (by omega) (by omega) ⟨_, rfl, by rw [e], ⟨_, _, by rw [e]; exact v2.1⟩, v2.2⟩
    · refine am_lload1 hC dX5_weight_20 ?_
      refine am_ldc2 hC (1000000000) dX5_weight_21 cX5_132 rfl ?_
      refine am_lif_le hC 30 dX5_weight_24 dX5_weight_25 rfl (by omega) (by omega) (fun c25 => ?_) (fun c25 => ?_)
      · refine am_aload0 hC dX5_weight_30 ?_
        refine am_getf hC dX5_weight_31 fX5_29 k2 rfl ?_
        refine am_aload0 hC dX5_weight_34 ?_
        refine am_getf hC dX5_weight_35 fX5_129 k2 rfl ?_
        refine am_lload1 hC dX5_weight_38 ?_
        have e : aWeight s v = (1, (s.1, s.2.1, s.2.2.1, s.2.2.2.1, s.2.2.2.2.1 + 1, am_fu s.2.2.2.2.2 s.2.2.2.2.1 v)) := by rw [aWeight, if_neg (by omega)]
        refine am_last hC dX5_weight_39 k45 (by omega) (by omega) ?_
        rw [Int.toNat_natCast]
        refine am_heap (fun H3 e3 => ?_)
        have o3 : only H2 H3 [49] := by rw [e3]; exact only_up (by simp)
        have N3 : H3.2 49 = _ := (congrArg (fun H => H.2 49) e3).trans (am_up_at _ _ _)
        clear e3
        have k3 : H3.2 43 = _ := (o3.2 43 (by simp)).trans k2
        refine am_aload0 hC dX5_weight_40 ?_
        refine am_dup hC dX5_weight_41 rfl ?_
        refine am_getf hC dX5_weight_42 fX5_129 k3 rfl ?_
        refine am_iconst hC dX5_weight_45 ?_
        refine am_iadd hC dX5_weight_46 ?_
        refine am_putf hC dX5_weight_47 pX5_129 (fun q => by cases q) k3 (am_fitI _) (Nat.le_of_ble_eq_true rfl) ?_
        refine am_iconst hC dX5_weight_50 ?_
        rw [rO_set9]
        refine am_heap (fun H4 e4 => ?_)
        have o4 : only H3 H4 [43] := by rw [e4]; exact only_up (by simp)
        have N4 : H4.2 43 = _ := (congrArg (fun H => H.2 43) e4).trans (am_up_at _ _ _)
        clear e4
        have o24 : only H2 H4 [43, 48, 49] := (o3.wk (by simp)).tr (o4.wk (by simp))
        exact am_zret hC hT dX5_weight_51 (by omega) (by omega) (by omega) ⟨_, rfl, by rw [e], ⟨_, _, by rw [e]; exact v2.1.re o24 N4 ((o4.2 48 (by simp)).trans ((o3.2 48 (by simp)).trans v2.1.2.2.2.2.1)) ((o4.2 49 (by simp)).trans N3)⟩, v2.2.tr (o24.wk (by simp))⟩
      · have e : aWeight s v = (0, s) := by rw [aWeight, if_pos (by omega)]
        refine am_iconst hC dX5_weight_28 ?_
        exact am_zret hC hT dX5_weight_29 (by omega) (by omega) (by omega) ⟨_, rfl, by rw [e], ⟨_, _, by rw [e]; exact v2.1⟩, v2.2⟩
theorem m_Mclear (l : Launch) (g : am_G) {h : am_H} {s : aS} {th : Int} {wd : Nat} {R : Nat → Int} (w : eS h s th wd R) :
    am_Met l g yX5_clearWeights (am_W1 yX5_clearWeights cX5_clearWeights 2 none) 1 0 0 [.ref 43] h (qN fun h1 => mOut h h1 0 (aClear s)) := by
  have h0 := w.1
  refine am_mk [some (.ref 43), none] 1 rfl rfl (by decide +kernel) (fun x hl hg hC hT _ => ?_)
  have loop : ∀ (m i : Nat) (H : am_H), i + m = 32 → only h H [43, 48, 49] → H.2 43 = some (rO 0 wd s.1 s.2.2.1 (0 : Nat)) → H.2 48 = some (eI 80 s.2.2.2.1) → H.2 49 = some (eL 32 (wZ s.2.2.2.2.2 i)) → am_W x 12 0 0 H [some (.ref 43), some (vI (i : Int))] [] := by
    intro m
    induction m with
    | zero =>
      intro i H hi o e0 e1 e2
      rw [show i = 32 by omega] at e2 ⊢
      refine am_iload1 hC dX5_clearWeights_12 ?_
      refine am_bipush hC dX5_clearWeights_13 rfl ?_
      refine am_icmp_ge hC 31 dX5_clearWeights_15 rfl (by omega) (by omega) (fun c15 => ?_) (fun c15 => ?_)
      · exact am_vret hC hT dX5_clearWeights_31 (by omega) (by omega) ⟨rfl, ⟨_, _, w.re o e0 e1 e2⟩, o.wk (by simp)⟩
      · exact absurd c15 (by omega)
    | succ m ih =>
      intro i H hi o e0 e1 e2
      refine am_iload1 hC dX5_clearWeights_12 ?_
      refine am_bipush hC dX5_clearWeights_13 rfl ?_
      refine am_icmp_ge hC 31 dX5_clearWeights_15 rfl (by omega) (by omega) (fun c15 => ?_) (fun c15 => ?_)
      · exact absurd c15 (by omega)
      · refine am_aload0 hC dX5_clearWeights_18 ?_
        refine am_getf hC dX5_clearWeights_19 fX5_29 e0 rfl ?_
        refine am_iload1 hC dX5_clearWeights_22 ?_
        refine am_lconst0 hC dX5_clearWeights_23 ?_
        refine am_last hC dX5_clearWeights_24 e2 (by omega) (by omega) ?_
        rw [Int.toNat_natCast, wZ_s]
        refine am_heap (fun H3 e3 => ?_)
        have o3 : only H H3 [49] := by rw [e3]; exact only_up (by simp)
        have N3 : H3.2 49 = _ := (congrArg (fun H => H.2 49) e3).trans (am_up_at _ _ _)
        clear e3
        refine am_iinc1 hC dX5_clearWeights_25 rfl ?_
        refine am_goto hC 12 dX5_clearWeights_28 rfl ?_
        rw [show (i : Int) + 1 = ((i + 1 : Nat) : Int) by omega]
        exact ih (i + 1) H3 (by omega) (o.tr (o3.wk (by simp))) ((o3.2 43 (by simp)).trans e0) ((o3.2 48 (by simp)).trans e1) N3
  refine am_aload0 hC dX5_clearWeights_0 ?_
  refine am_iconst hC dX5_clearWeights_1 ?_
  refine am_putf hC dX5_clearWeights_2 pX5_33 (fun q => by cases q) h0 (am_fitI _) (Nat.le_of_ble_eq_true rfl) ?_
  rw [rO_set0]
  refine am_heap (fun H2 e2 => ?_)
  have v2 : eS H2 s 0 wd R ∧ only h H2 [43] := by rw [e2]; exact ⟨w.o w.2.2.1, only_up (by simp)⟩
  have k2 := v2.1.1
  clear e2
  refine am_aload0 hC dX5_clearWeights_5 ?_
  refine am_iconst hC dX5_clearWeights_6 ?_
  refine am_putf hC dX5_clearWeights_7 pX5_129 (fun q => by cases q) k2 (am_fitI _) (Nat.le_of_ble_eq_true rfl) ?_
  rw [rO_set9]
  refine am_heap (fun H3 e3 => ?_)
  have o3 : only H2 H3 [43] := by rw [e3]; exact only_up (by simp)
  have N3 : H3.2 43 = _ := (congrArg (fun H => H.2 43) e3).trans (am_up_at _ _ _)
  clear e3
  refine am_iconst hC dX5_clearWeights_10 ?_
  refine am_istore1 hC dX5_clearWeights_11 rfl ?_
  exact loop 32 0 H3 rfl ((v2.2.wk (by simp)).tr (o3.wk (by simp))) N3 ((o3.2 48 (by simp)).trans v2.1.2.2.2.2.1) (by rw [wZ_0]; exact (o3.2 49 (by simp)).trans v2.1.2.2.2.2.2)
theorem m_Mend (l : Launch) (g : am_G) {h : am_H} {s : aS} {th r v : Int} {wd : Nat} {R : Nat → Int} (w : eS h s th wd R) (hr : IR r) (hv : IR v) :
    am_Met l g yX5_end (am_W1 yX5_end cX5_end 3 (some .int)) 1 0 0 [.ref 43, vI r, vI v] h (qI fun a h1 => (okE r v ∧ a = s.2.2.2.1 (2 * r + v).toNat ∧ mOut h h1 0 s) ∨ (¬ okE r v ∧ mOut h h1 1 s)) := by
  have h0 := w.1
  refine am_mk [some (.ref 43), some (vI r), some (vI v)] 0 rfl rfl (by decide +kernel) (fun x hl hg hC hT _ => ?_)
  refine am_aload0 hC dX5_end_0 ?_
  refine am_iload1 hC dX5_end_1 ?_
  refine am_if_lt hC 20 dX5_end_2 rfl (by omega) (fun c2 => ?_) (fun c2 => ?_)
  · refine am_iconst hC dX5_end_20 ?_
    refine am_goto hC 25 dX5_end_21 rfl ?_
    refine am_putf hC dX5_end_25 pX5_33 (fun q => by cases q) h0 (am_fitI _) (Nat.le_of_ble_eq_true rfl) ?_
    rw [rO_set0]
    refine am_heap (fun H2 e2 => ?_)
    have tv : ∀ t : Int, H2 = am_up h 43 (rO t wd s.1 s.2.2.1 s.2.2.2.2.1) → eS H2 s t wd R ∧ only h H2 K45 := fun t et => by rw [et]; exact ⟨w.o w.2.2.1, only.o⟩
    have v2 := tv _ e2
    have k2 := v2.1.1
    have k44 := v2.1.2.2.2.2.1
    clear e2 tv
    refine am_aload0 hC dX5_end_28 ?_
    refine am_getf hC dX5_end_29 fX5_33 k2 rfl ?_
    refine am_if_le hC 39 dX5_end_32 rfl (by omega) (fun c32 => ?_) (fun c32 => ?_)
    · refine am_aload0 hC dX5_end_39 ?_
      refine am_getf hC dX5_end_40 fX5_26 k2 rfl ?_
      refine am_iconst hC dX5_end_43 ?_
      refine am_iload1 hC dX5_end_44 ?_
      refine am_imul hC dX5_end_45 ?_
      refine am_iload2 hC dX5_end_46 ?_
      refine am_iadd hC dX5_end_47 ?_
      refine am_iald hC dX5_end_48 k44 (by omega) (by omega) ?_
      first
        | exact am_iret hC hT dX5_end_49 (by omega) (by omega) ⟨_, rfl, Or.inl ⟨⟨⟨by omega, by omega⟩, by omega, by omega⟩, rfl, ⟨_, _, v2.1⟩, v2.2⟩⟩
        | exact am_iret hC hT dX5_end_49 (by omega) (by omega) ⟨_, rfl, Or.inr ⟨by unfold okE; omega, ⟨_, _, v2.1⟩, v2.2⟩⟩
        | exact absurd c32 (by decide)
    · refine am_iconst hC dX5_end_35 ?_
      refine am_goto hC 49 dX5_end_36 rfl ?_
      first
        | exact am_iret hC hT dX5_end_49 (by omega) (by omega) ⟨_, rfl, Or.inl ⟨⟨⟨by omega, by omega⟩, by omega, by omega⟩, rfl, ⟨_, _, v2.1⟩, v2.2⟩⟩
        | exact am_iret hC hT dX5_end_49 (by omega) (by omega) ⟨_, rfl, Or.inr ⟨by unfold okE; omega, ⟨_, _, v2.1⟩, v2.2⟩⟩
        | exact absurd c32 (by decide)
  · refine am_iload1 hC dX5_end_5 ?_
    refine am_bipush hC dX5_end_6 rfl ?_
    refine am_icmp_ge hC 20 dX5_end_8 rfl (by omega) (by omega) (fun c8 => ?_) (fun c8 => ?_)
    · refine am_iconst hC dX5_end_20 ?_
      refine am_goto hC 25 dX5_end_21 rfl ?_
      refine am_putf hC dX5_end_25 pX5_33 (fun q => by cases q) h0 (am_fitI _) (Nat.le_of_ble_eq_true rfl) ?_
      rw [rO_set0]
      refine am_heap (fun H2 e2 => ?_)
      have tv : ∀ t : Int, H2 = am_up h 43 (rO t wd s.1 s.2.2.1 s.2.2.2.2.1) → eS H2 s t wd R ∧ only h H2 K45 := fun t et => by rw [et]; exact ⟨w.o w.2.2.1, only.o⟩
      have v2 := tv _ e2
      have k2 := v2.1.1
      have k44 := v2.1.2.2.2.2.1
      clear e2 tv
      refine am_aload0 hC dX5_end_28 ?_
      refine am_getf hC dX5_end_29 fX5_33 k2 rfl ?_
      refine am_if_le hC 39 dX5_end_32 rfl (by omega) (fun c32 => ?_) (fun c32 => ?_)
      · refine am_aload0 hC dX5_end_39 ?_
        refine am_getf hC dX5_end_40 fX5_26 k2 rfl ?_
        refine am_iconst hC dX5_end_43 ?_
        refine am_iload1 hC dX5_end_44 ?_
        refine am_imul hC dX5_end_45 ?_
        refine am_iload2 hC dX5_end_46 ?_
        refine am_iadd hC dX5_end_47 ?_
        refine am_iald hC dX5_end_48 k44 (by omega) (by omega) ?_
        first
          | exact am_iret hC hT dX5_end_49 (by omega) (by omega) ⟨_, rfl, Or.inl ⟨⟨⟨by omega, by omega⟩, by omega, by omega⟩, rfl, ⟨_, _, v2.1⟩, v2.2⟩⟩
          | exact am_iret hC hT dX5_end_49 (by omega) (by omega) ⟨_, rfl, Or.inr ⟨by unfold okE; omega, ⟨_, _, v2.1⟩, v2.2⟩⟩
          | exact absurd c32 (by decide)
      · refine am_iconst hC dX5_end_35 ?_
        refine am_goto hC 49 dX5_end_36 rfl ?_
        first
          | exact am_iret hC hT dX5_end_49 (by omega) (by omega) ⟨_, rfl, Or.inl ⟨⟨⟨by omega, by omega⟩, by omega, by omega⟩, rfl, ⟨_, _, v2.1⟩, v2.2⟩⟩
          | exact am_iret hC hT dX5_end_49 (by omega) (by omega) ⟨_, rfl, Or.inr ⟨by unfold okE; omega, ⟨_, _, v2.1⟩, v2.2⟩⟩
          | exact absurd c32 (by decide)
    · refine am_iload2 hC dX5_end_11 ?_
      refine am_if_lt hC 20 dX5_end_12 rfl (by omega) (fun c12 => ?_) (fun c12 => ?_)
      · refine am_iconst hC dX5_end_20 ?_
        refine am_goto hC 25 dX5_end_21 rfl ?_
        refine am_putf hC dX5_end_25 pX5_33 (fun q => by cases q) h0 (am_fitI _) (Nat.le_of_ble_eq_true rfl) ?_
        rw [rO_set0]
        refine am_heap (fun H2 e2 => ?_)
        have tv : ∀ t : Int, H2 = am_up h 43 (rO t wd s.1 s.2.2.1 s.2.2.2.2.1) → eS H2 s t wd R ∧ only h H2 K45 := fun t et => by rw [et]; exact ⟨w.o w.2.2.1, only.o⟩
        have v2 := tv _ e2
        have k2 := v2.1.1
        have k44 := v2.1.2.2.2.2.1
        clear e2 tv
        refine am_aload0 hC dX5_end_28 ?_
        refine am_getf hC dX5_end_29 fX5_33 k2 rfl ?_
        refine am_if_le hC 39 dX5_end_32 rfl (by omega) (fun c32 => ?_) (fun c32 => ?_)
        · refine am_aload0 hC dX5_end_39 ?_
          refine am_getf hC dX5_end_40 fX5_26 k2 rfl ?_
          refine am_iconst hC dX5_end_43 ?_
          refine am_iload1 hC dX5_end_44 ?_
          refine am_imul hC dX5_end_45 ?_
          refine am_iload2 hC dX5_end_46 ?_
          refine am_iadd hC dX5_end_47 ?_
          refine am_iald hC dX5_end_48 k44 (by omega) (by omega) ?_
          first
            | exact am_iret hC hT dX5_end_49 (by omega) (by omega) ⟨_, rfl, Or.inl ⟨⟨⟨by omega, by omega⟩, by omega, by omega⟩, rfl, ⟨_, _, v2.1⟩, v2.2⟩⟩
            | exact am_iret hC hT dX5_end_49 (by omega) (by omega) ⟨_, rfl, Or.inr ⟨by unfold okE; omega, ⟨_, _, v2.1⟩, v2.2⟩⟩
            | exact absurd c32 (by decide)
        · refine am_iconst hC dX5_end_35 ?_
          refine am_goto hC 49 dX5_end_36 rfl ?_
          first
            | exact am_iret hC hT dX5_end_49 (by omega) (by omega) ⟨_, rfl, Or.inl ⟨⟨⟨by omega, by omega⟩, by omega, by omega⟩, rfl, ⟨_, _, v2.1⟩, v2.2⟩⟩
            | exact am_iret hC hT dX5_end_49 (by omega) (by omega) ⟨_, rfl, Or.inr ⟨by unfold okE; omega, ⟨_, _, v2.1⟩, v2.2⟩⟩
            | exact absurd c32 (by decide)
      · refine am_iload2 hC dX5_end_15 ?_
        refine am_iconst hC dX5_end_16 ?_
        refine am_icmp_le hC 24 dX5_end_17 rfl (by omega) (by omega) (fun c17 => ?_) (fun c17 => ?_)
        · refine am_iconst hC dX5_end_24 ?_
          refine am_putf hC dX5_end_25 pX5_33 (fun q => by cases q) h0 (am_fitI _) (Nat.le_of_ble_eq_true rfl) ?_
          rw [rO_set0]
          refine am_heap (fun H2 e2 => ?_)
          have tv : ∀ t : Int, H2 = am_up h 43 (rO t wd s.1 s.2.2.1 s.2.2.2.2.1) → eS H2 s t wd R ∧ only h H2 K45 := fun t et => by rw [et]; exact ⟨w.o w.2.2.1, only.o⟩
          have v2 := tv _ e2
          have k2 := v2.1.1
          have k44 := v2.1.2.2.2.2.1
          clear e2 tv
          refine am_aload0 hC dX5_end_28 ?_
          refine am_getf hC dX5_end_29 fX5_33 k2 rfl ?_
          refine am_if_le hC 39 dX5_end_32 rfl (by omega) (fun c32 => ?_) (fun c32 => ?_)
          · refine am_aload0 hC dX5_end_39 ?_
            refine am_getf hC dX5_end_40 fX5_26 k2 rfl ?_
            refine am_iconst hC dX5_end_43 ?_
            refine am_iload1 hC dX5_end_44 ?_
            refine am_imul hC dX5_end_45 ?_
            refine am_iload2 hC dX5_end_46 ?_
            refine am_iadd hC dX5_end_47 ?_
            refine am_iald hC dX5_end_48 k44 (by omega) (by omega) ?_
            first
              | exact am_iret hC hT dX5_end_49 (by omega) (by omega) ⟨_, rfl, Or.inl ⟨⟨⟨by omega, by omega⟩, by omega, by omega⟩, rfl, ⟨_, _, v2.1⟩, v2.2⟩⟩
              | exact am_iret hC hT dX5_end_49 (by omega) (by omega) ⟨_, rfl, Or.inr ⟨by unfold okE; omega, ⟨_, _, v2.1⟩, v2.2⟩⟩
              | exact absurd c32 (by decide)
          · refine am_iconst hC dX5_end_35 ?_
            refine am_goto hC 49 dX5_end_36 rfl ?_
            first
              | exact am_iret hC hT dX5_end_49 (by omega) (by omega) ⟨_, rfl, Or.inl ⟨⟨⟨by omega, by omega⟩, by omega, by omega⟩, rfl, ⟨_, _, v2.1⟩, v2.2⟩⟩
              | exact am_iret hC hT dX5_end_49 (by omega) (by omega) ⟨_, rfl, Or.inr ⟨by unfold okE; omega, ⟨_, _, v2.1⟩, v2.2⟩⟩
              | exact absurd c32 (by decide)
        · refine am_iconst hC dX5_end_20 ?_
          refine am_goto hC 25 dX5_end_21 rfl ?_
          refine am_putf hC dX5_end_25 pX5_33 (fun q => by cases q) h0 (am_fitI _) (Nat.le_of_ble_eq_true rfl) ?_
          rw [rO_set0]
          refine am_heap (fun H2 e2 => ?_)
          have tv : ∀ t : Int, H2 = am_up h 43 (rO t wd s.1 s.2.2.1 s.2.2.2.2.1) → eS H2 s t wd R ∧ only h H2 K45 := fun t et => by rw [et]; exact ⟨w.o w.2.2.1, only.o⟩
          have v2 := tv _ e2
          have k2 := v2.1.1
          have k44 := v2.1.2.2.2.2.1
          clear e2 tv
          refine am_aload0 hC dX5_end_28 ?_
          refine am_getf hC dX5_end_29 fX5_33 k2 rfl ?_
          refine am_if_le hC 39 dX5_end_32 rfl (by omega) (fun c32 => ?_) (fun c32 => ?_)
          · refine am_aload0 hC dX5_end_39 ?_
            refine am_getf hC dX5_end_40 fX5_26 k2 rfl ?_
            refine am_iconst hC dX5_end_43 ?_
            refine am_iload1 hC dX5_end_44 ?_
            refine am_imul hC dX5_end_45 ?_
            refine am_iload2 hC dX5_end_46 ?_
            refine am_iadd hC dX5_end_47 ?_
            refine am_iald hC dX5_end_48 k44 (by omega) (by omega) ?_
            first
              | exact am_iret hC hT dX5_end_49 (by omega) (by omega) ⟨_, rfl, Or.inl ⟨⟨⟨by omega, by omega⟩, by omega, by omega⟩, rfl, ⟨_, _, v2.1⟩, v2.2⟩⟩
              | exact am_iret hC hT dX5_end_49 (by omega) (by omega) ⟨_, rfl, Or.inr ⟨by unfold okE; omega, ⟨_, _, v2.1⟩, v2.2⟩⟩
              | exact absurd c32 (by decide)
          · refine am_iconst hC dX5_end_35 ?_
            refine am_goto hC 49 dX5_end_36 rfl ?_
            first
              | exact am_iret hC hT dX5_end_49 (by omega) (by omega) ⟨_, rfl, Or.inl ⟨⟨⟨by omega, by omega⟩, by omega, by omega⟩, rfl, ⟨_, _, v2.1⟩, v2.2⟩⟩
              | exact am_iret hC hT dX5_end_49 (by omega) (by omega) ⟨_, rfl, Or.inr ⟨by unfold okE; omega, ⟨_, _, v2.1⟩, v2.2⟩⟩
              | exact absurd c32 (by decide)

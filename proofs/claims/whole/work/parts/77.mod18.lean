/-! the Model's turn -/
theorem m_Mturn (l : Launch) (g : am_G) {h : am_H} {s : aS} {th i a b : Int} {wd : Nat} {R : Nat → Int} (w : eS h s th wd R) (ok : aOK s) (hi : IR i) (ha : IR a) (hb : IR b) :
    am_Met l g yX5_turn (am_W1 yX5_turn cX5_turn 4 (some .int)) 4 0 0 [.ref 43, vI i, vI a, vI b] h (qI fun v h1 => ((okV i ∧ okU a ∧ okU b) ∧ v = (aTurn s i.toNat a.toNat b.toNat).1 ∧ mOut h h1 0 (aTurn s i.toNat a.toNat b.toNat).2) ∨ (¬ (okV i ∧ okU a ∧ okU b) ∧ mOut h h1 1 s)) := by
  have h0 := w.1
  refine am_mk [some (.ref 43), some (vI i), some (vI a), some (vI b)] 0 rfl rfl (by decide +kernel) (fun z hl hg hC hT _ => ?_)
  have tv : ∀ (t : Int) (H : am_H), H = am_up h 43 (rO t wd s.1 s.2.2.1 s.2.2.2.2.1) → eS H s t wd R ∧ only h H K45 := fun t H et => by rw [et]; exact ⟨w.o w.2.2.1, only.o⟩
  have bad : ∀ H : am_H, H = am_up h 43 (rO 1 wd s.1 s.2.2.1 s.2.2.2.2.1) → ¬ (okV i ∧ okU a ∧ okU b) → am_W z 34 0 0 H [some (.ref 43), some (vI i), some (vI a), some (vI b)] [] := by
    intro H e nb
    have v2 := tv 1 H e
    have k2 := v2.1.1
    refine am_aload0 hC dX5_turn_34 ?_
    refine am_getf hC dX5_turn_35 fX5_33 k2 rfl ?_
    refine am_if_le hC 43 dX5_turn_38 rfl (by omega) (fun c38 => ?_) (fun c38 => ?_)
    · exact absurd c38 (by decide)
    · refine am_iconst hC dX5_turn_41 ?_
      exact am_iret hC hT dX5_turn_42 (by omega) (by omega) ⟨_, rfl, Or.inr ⟨nb, ⟨_, _, v2.1⟩, v2.2⟩⟩
  have good : ∀ H : am_H, H = am_up h 43 (rO 0 wd s.1 s.2.2.1 s.2.2.2.2.1) → okV i → okU a → okU b → am_W z 34 0 0 H [some (.ref 43), some (vI i), some (vI a), some (vI b)] [] := by
    intro H e oi oa ob
    have v2 := tv 0 H e
    have k2 := v2.1.1
    obtain ⟨I, hI⟩ : ∃ I, I = i.toNat := ⟨_, rfl⟩
    have I1 : I < 150 := by have := oi.1; have := oi.2; omega
    have ei : i = (I : Int) := by have := oi.1; omega
    have oI := ok.2.1 I I1
    rw [← hI] at hT
    rw [ei]
    rw [ei] at hT oi
    have ra := am_tab_r a.toNat
    have rb := am_tab_r b.toNat
    obtain ⟨A, hA⟩ : ∃ A, A = (am_tab a.toNat).natAbs := ⟨_, rfl⟩
    obtain ⟨B, hB⟩ : ∃ B, B = (am_tab b.toNat).natAbs := ⟨_, rfl⟩
    have lA : A < 32768 ^ 2 := Nat.lt_of_le_of_lt (show A ≤ 300000 by omega) (by decide)
    have lB : B < 32768 ^ 2 := Nat.lt_of_le_of_lt (show B ≤ 300000 by omega) (by decide)
    have aA : aTurn s I a.toNat b.toNat = aPut s (s.2.1 I).1 ((s.2.1 I).2.1 * A) ((s.2.1 I).2.2 * B) := by rw [aTurn, hA, hB]
    refine am_aload0 hC dX5_turn_34 ?_
    refine am_getf hC dX5_turn_35 fX5_33 k2 rfl ?_
    refine am_if_le hC 43 dX5_turn_38 rfl (by omega) (fun c38 => ?_) (fun c38 => ?_)
    · refine am_aload0 hC dX5_turn_43 ?_
      refine am_iload1 hC dX5_turn_44 ?_
      refine am_iload1 hC dX5_turn_45 ?_
      refine am_bipush hC dX5_turn_46 rfl ?_
      refine am_V3_qN hC 5 dX5_turn_48 kX5_94 (m_Mneed (more := 8) _ _ v2.1 I1 I1 (by decide) oI oI) k2 rfl (Nat.le_of_ble_eq_true rfl) (by decide) (by omega) (by omega) (fun h3 r => ?_)
      obtain ⟨wd3, ⟨n1, n2, hw, b1, b2, q1, q2, q3, q4⟩, e3⟩ := r
      have v3 : eS h3 s 0 wd3 R := by rw [e3]; exact v2.1.o (by omega)
      have o3 : only h h3 K45 := v2.2.tr (by rw [e3]; exact only.o)
      have k3 := v3.1
      clear e3
      refine am_aload0 hC dX5_turn_51 ?_
      refine am_iload1 hC dX5_turn_52 ?_
      refine am_iconst hC dX5_turn_53 ?_
      refine am_iconst hC dX5_turn_54 ?_
      refine am_V3_qN hC 5 dX5_turn_55 kX5_98 (m_Mtake (x := 0) (y := 1) _ _ v3 I1 oI (by decide) (by decide) (by decide)) k3 rfl (Nat.le_of_ble_eq_true rfl) (by decide) (by omega) (by omega) (fun h4 r => ?_)
      obtain ⟨R4, rfl, a4, b4, f4⟩ := r
      have v4 := v3.r (R' := R4)
      have k4 := v4.1
      refine am_aload0 hC dX5_turn_58 ?_
      refine am_iconst hC dX5_turn_59 ?_
      refine am_iload2 hC dX5_turn_60 ?_
      refine am_S1_pL hC dX5_turn_61 kX5_125 (m_Mlength _ _ oa) (Nat.le_of_ble_eq_true rfl) (by decide) (by omega) (by omega) ?_
      refine am_V2_qN hC 5 dX5_turn_64 kX5_36 (m_Mset (x := 2) _ _ v4.x (by decide)) k4 rfl (Nat.le_of_ble_eq_true rfl) (by decide) (by omega) (by omega) (fun h5 r => ?_)
      obtain ⟨R5, e5, c5, f5⟩ := r
      rw [am_up_up] at e5
      subst e5
      rw [show (am_tab a.toNat % 18446744073709551616).toNat = A by omega] at c5
      have v5 := v3.r (R' := R5)
      have k5 := v5.1
      have a5 := a4.kept f5 (by decide)
      have b5 := b4.kept f5 (by decide)
      refine am_aload0 hC dX5_turn_67 ?_
      refine am_iconst hC dX5_turn_68 ?_
      refine am_iload3 hC dX5_turn_69 ?_
      refine am_S1_pL hC dX5_turn_70 kX5_125 (m_Mlength _ _ ob) (Nat.le_of_ble_eq_true rfl) (by decide) (by omega) (by omega) ?_
      refine am_V2_qN hC 5 dX5_turn_73 kX5_36 (m_Mset (x := 3) _ _ v5.x (by decide)) k5 rfl (Nat.le_of_ble_eq_true rfl) (by decide) (by omega) (by omega) (fun h6 r => ?_)
      obtain ⟨R6, e6, d6, f6⟩ := r
      rw [am_up_up] at e6
      subst e6
      rw [show (am_tab b.toNat % 18446744073709551616).toNat = B by omega] at d6
      have v6 := v3.r (R' := R6)
      have k6 := v6.1
      have a6 := a5.kept f6 (by decide)
      have b6 := b5.kept f6 (by decide)
      have c6 := c5.kept f6 (by decide)
      refine am_aload0 hC dX5_turn_76 ?_
      refine am_iconst hC dX5_turn_77 ?_
      refine am_iconst hC dX5_turn_78 ?_
      refine am_iconst hC dX5_turn_79 ?_
      refine am_V3_qN hC 5 dX5_turn_80 kX5_101 (m_Mproduct (x := 0) (y := 2) (t := 4) _ _ v6.x (by decide) (by decide) (by decide) (by decide) (by decide) a6 c6 (fitM q1 lA (by omega))) k6 rfl (Nat.le_of_ble_eq_true rfl) (by decide) (by omega) (by omega) (fun h7 r => ?_)
      obtain ⟨R7, e7, g7, f7⟩ := r
      rw [am_up_up] at e7
      subst e7
      have v7 := v3.r (R' := R7)
      have k7 := v7.1
      have b7 := b6.kept f7 (by decide)
      have d7 := d6.kept f7 (by decide)
      refine am_aload0 hC dX5_turn_83 ?_
      refine am_iconst hC dX5_turn_84 ?_
      refine am_iconst hC dX5_turn_85 ?_
      refine am_iconst hC dX5_turn_86 ?_
      refine am_V3_qN hC 5 dX5_turn_87 kX5_101 (m_Mproduct (x := 1) (y := 3) (t := 5) _ _ v7.x (by decide) (by decide) (by decide) (by decide) (by decide) b7 d7 (fitM q2 lB (by omega))) k7 rfl (Nat.le_of_ble_eq_true rfl) (by decide) (by omega) (by omega) (fun h8 r => ?_)
      obtain ⟨R8, e8, g8, f8⟩ := r
      rw [am_up_up] at e8
      subst e8
      have v8 := v3.r (R' := R8)
      have k8 := v8.1
      have g78 := g7.kept f8 (by decide)
      obtain ⟨⟨fs, s1, s2⟩, -, -⟩ := v8.2.2.2.1
      refine am_aload0 hC dX5_turn_90 ?_
      refine am_aload0 hC dX5_turn_91 ?_
      refine am_getf hC dX5_turn_92 fX5_17 k8 rfl ?_
      refine am_iload1 hC dX5_turn_95 ?_
      refine am_iald hC dX5_turn_96 s1 (by omega) (by omega) ?_
      refine am_iconst hC dX5_turn_97 ?_
      refine am_iconst hC dX5_turn_98 ?_
      rw [Int.toNat_natCast, s2 I I1]
      refine am_V3_qI hC 5 dX5_turn_99 kX5_87 (m_Mmake (x := 4) (y := 5) _ _ v8 ok.1 (by decide) (by decide) g78 g8 (fitM q1 lA (by omega)) (fitM q2 lB (by omega)) (Nat.mul_pos oI.2.2.1 (by omega))) k8 rfl (Nat.le_of_ble_eq_true rfl) (by decide) (by omega) (by omega) (fun v h9 r => ?_)
      obtain ⟨ev, ⟨R9, v9, -⟩, o9⟩ := r
      exact am_iret hC hT dX5_turn_102 (by omega) (by omega) ⟨_, rfl, Or.inl ⟨⟨oi, oa, ob⟩, by rw [aA]; exact ev, ⟨_, _, by rw [aA]; exact v9⟩, o3.tr ((only.r (R := R)).tr o9)⟩⟩
    · exact absurd c38 (by decide)
  refine am_aload0 hC dX5_turn_0 ?_
  refine am_iload1 hC dX5_turn_1 ?_
  refine am_S1_qI hC dX5_turn_2 kX5_91 (m_MnoValue _ _ hi) (Nat.le_of_ble_eq_true rfl) (by decide) (by omega) (by omega) (fun v h1 q => ?_)
  obtain ⟨e, q⟩ := q
  rw [e]
  clear e
  have nq : v ≠ 0 → ¬ okV i := fun c => by rcases q with x | x; (· exact absurd x.1 c); (· exact x.2)
  have yq : v = 0 → okV i := fun c => by rcases q with x | x; (· exact x.2); (· omega)
  refine am_if_ne hC 26 dX5_turn_5 rfl (by omega) (fun c5 => ?_) (fun c5 => ?_)
  · refine am_iconst hC dX5_turn_26 ?_
    refine am_goto hC 31 dX5_turn_27 rfl ?_
    refine am_putf hC dX5_turn_31 pX5_33 (fun q => by cases q) h0 (am_fitI _) (Nat.le_of_ble_eq_true rfl) ?_
    rw [rO_set0]
    first
      | exact bad _ rfl (fun c => nq (by omega) c.1)
      | exact bad _ rfl (fun c => by have := c.2.1.1; have := c.2.1.2; have := c.2.2.1; have := c.2.2.2; omega)
      | exact good _ rfl (yq (by omega)) ⟨by omega, by omega⟩ ⟨by omega, by omega⟩
  · refine am_iload2 hC dX5_turn_8 ?_
    refine am_if_lt hC 26 dX5_turn_9 rfl (by omega) (fun c9 => ?_) (fun c9 => ?_)
    · refine am_iconst hC dX5_turn_26 ?_
      refine am_goto hC 31 dX5_turn_27 rfl ?_
      refine am_putf hC dX5_turn_31 pX5_33 (fun q => by cases q) h0 (am_fitI _) (Nat.le_of_ble_eq_true rfl) ?_
      rw [rO_set0]
      first
        | exact bad _ rfl (fun c => nq (by omega) c.1)
        | exact bad _ rfl (fun c => by have := c.2.1.1; have := c.2.1.2; have := c.2.2.1; have := c.2.2.2; omega)
        | exact good _ rfl (yq (by omega)) ⟨by omega, by omega⟩ ⟨by omega, by omega⟩
    · refine am_iload2 hC dX5_turn_12 ?_
      refine am_iconst hC dX5_turn_13 ?_
      refine am_icmp_gt hC 26 dX5_turn_14 rfl (by omega) (by omega) (fun c14 => ?_) (fun c14 => ?_)
      · refine am_iconst hC dX5_turn_26 ?_
        refine am_goto hC 31 dX5_turn_27 rfl ?_
        refine am_putf hC dX5_turn_31 pX5_33 (fun q => by cases q) h0 (am_fitI _) (Nat.le_of_ble_eq_true rfl) ?_
        rw [rO_set0]
        first
          | exact bad _ rfl (fun c => nq (by omega) c.1)
          | exact bad _ rfl (fun c => by have := c.2.1.1; have := c.2.1.2; have := c.2.2.1; have := c.2.2.2; omega)
          | exact good _ rfl (yq (by omega)) ⟨by omega, by omega⟩ ⟨by omega, by omega⟩
      · refine am_iload3 hC dX5_turn_17 ?_
        refine am_if_lt hC 26 dX5_turn_18 rfl (by omega) (fun c18 => ?_) (fun c18 => ?_)
        · refine am_iconst hC dX5_turn_26 ?_
          refine am_goto hC 31 dX5_turn_27 rfl ?_
          refine am_putf hC dX5_turn_31 pX5_33 (fun q => by cases q) h0 (am_fitI _) (Nat.le_of_ble_eq_true rfl) ?_
          rw [rO_set0]
          first
            | exact bad _ rfl (fun c => nq (by omega) c.1)
            | exact bad _ rfl (fun c => by have := c.2.1.1; have := c.2.1.2; have := c.2.2.1; have := c.2.2.2; omega)
            | exact good _ rfl (yq (by omega)) ⟨by omega, by omega⟩ ⟨by omega, by omega⟩
        · refine am_iload3 hC dX5_turn_21 ?_
          refine am_iconst hC dX5_turn_22 ?_
          refine am_icmp_le hC 30 dX5_turn_23 rfl (by omega) (by omega) (fun c23 => ?_) (fun c23 => ?_)
          · refine am_iconst hC dX5_turn_30 ?_
            refine am_putf hC dX5_turn_31 pX5_33 (fun q => by cases q) h0 (am_fitI _) (Nat.le_of_ble_eq_true rfl) ?_
            rw [rO_set0]
            first
              | exact bad _ rfl (fun c => nq (by omega) c.1)
              | exact bad _ rfl (fun c => by have := c.2.1.1; have := c.2.1.2; have := c.2.2.1; have := c.2.2.2; omega)
              | exact good _ rfl (yq (by omega)) ⟨by omega, by omega⟩ ⟨by omega, by omega⟩
          · refine am_iconst hC dX5_turn_26 ?_
            refine am_goto hC 31 dX5_turn_27 rfl ?_
            refine am_putf hC dX5_turn_31 pX5_33 (fun q => by cases q) h0 (am_fitI _) (Nat.le_of_ble_eq_true rfl) ?_
            rw [rO_set0]
            first
              | exact bad _ rfl (fun c => nq (by omega) c.1)
              | exact bad _ rfl (fun c => by have := c.2.1.1; have := c.2.1.2; have := c.2.2.1; have := c.2.2.2; omega)
              | exact good _ rfl (yq (by omega)) ⟨by omega, by omega⟩ ⟨by omega, by omega⟩

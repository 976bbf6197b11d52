/-! the Model's order -/
theorem m_Morder (l : Launch) (g : am_G) {h : am_H} {s : aS} {th i j : Int} {wd : Nat} {R : Nat → Int} (w : eS h s th wd R) (ok : aOK s) (hi : IR i) (hj : IR j) :
    am_Met l g yX5_order (am_W1 yX5_order cX5_order 3 (some .int)) 4 0 0 [.ref 43, vI i, vI j] h (qI fun v h1 => ((okV i ∧ okV j) ∧ v = aOrder s i.toNat j.toNat ∧ mOut h h1 0 s) ∨ (¬ (okV i ∧ okV j) ∧ mOut h h1 1 s)) := by
  have h0 := w.1
  refine am_mk [some (.ref 43), some (vI i), some (vI j)] 0 rfl rfl (by decide +kernel) (fun z hl hg hC hT _ => ?_)
  have tv : ∀ (t : Int) (H : am_H), H = am_up h 43 (rO t wd s.1 s.2.2.1 s.2.2.2.2.1) → eS H s t wd R ∧ only h H K45 := fun t H et => by rw [et]; exact ⟨w.o w.2.2.1, only.o⟩
  have bad : ∀ H : am_H, H = am_up h 43 (rO 1 wd s.1 s.2.2.1 s.2.2.2.2.1) → ¬ (okV i ∧ okV j) → am_W z 23 0 0 H [some (.ref 43), some (vI i), some (vI j)] [] := by
    intro H e nb
    have v2 := tv 1 H e
    have k2 := v2.1.1
    refine am_aload0 hC dX5_order_23 ?_
    refine am_getf hC dX5_order_24 fX5_33 k2 rfl ?_
    refine am_if_le hC 32 dX5_order_27 rfl (by omega) (fun c27 => ?_) (fun c27 => ?_)
    · exact absurd c27 (by decide)
    · refine am_iconst hC dX5_order_30 ?_
      exact am_iret hC hT dX5_order_31 (by omega) (by omega) ⟨_, rfl, Or.inr ⟨nb, ⟨_, _, v2.1⟩, v2.2⟩⟩
  have good : ∀ H : am_H, H = am_up h 43 (rO 0 wd s.1 s.2.2.1 s.2.2.2.2.1) → okV i → okV j → am_W z 23 0 0 H [some (.ref 43), some (vI i), some (vI j)] [] := by
    intro H e oi oj
    have v2 := tv 0 H e
    have k2 := v2.1.1
    obtain ⟨I, hI⟩ : ∃ I, I = i.toNat := ⟨_, rfl⟩
    obtain ⟨J, hJ⟩ : ∃ J, J = j.toNat := ⟨_, rfl⟩
    have I1 : I < 150 := by have := oi.1; have := oi.2; omega
    have J1 : J < 150 := by have := oj.1; have := oj.2; omega
    have ei : i = (I : Int) := by have := oi.1; omega
    have ej : j = (J : Int) := by have := oj.1; omega
    have oI := ok.2.1 I I1
    have oJ := ok.2.1 J J1
    rw [← hI, ← hJ] at hT
    rw [ei, ej]
    rw [ei, ej] at hT
    obtain ⟨⟨fs, s1, s2⟩, -, -⟩ := v2.1.2.2.2.1
    have si := s2 I I1
    have sj := s2 J J1
    have sg1 := oI.1
    have sg2 := oJ.1
    obtain ⟨su, hsu⟩ : ∃ su, su = (s.2.1 I).1 := ⟨_, rfl⟩
    obtain ⟨sv, hsv⟩ : ∃ sv, sv = (s.2.1 J).1 := ⟨_, rfl⟩
    rw [← hsu] at si sg1
    rw [← hsv] at sj sg2
    have aA : aOrder s I J = if su = sv then su * cmpN ((s.2.1 I).2.1 * (s.2.1 J).2.2) ((s.2.1 J).2.1 * (s.2.1 I).2.2) else if su < sv then -1 else 1 := by rw [aOrder, ← hsu, ← hsv]
    have oij : okV (I : Int) ∧ okV (J : Int) := ⟨by rw [← ei]; exact oi, by rw [← ej]; exact oj⟩
    refine am_aload0 hC dX5_order_23 ?_
    refine am_getf hC dX5_order_24 fX5_33 k2 rfl ?_
    refine am_if_le hC 32 dX5_order_27 rfl (by omega) (fun c27 => ?_) (fun c27 => ?_)
    · refine am_aload0 hC dX5_order_32 ?_
      refine am_getf hC dX5_order_33 fX5_17 k2 rfl ?_
      refine am_iload1 hC dX5_order_36 ?_
      refine am_iald hC dX5_order_37 s1 (by omega) (by omega) ?_
      refine am_aload0 hC dX5_order_38 ?_
      refine am_getf hC dX5_order_39 fX5_17 k2 rfl ?_
      refine am_iload2 hC dX5_order_42 ?_
      rw [Int.toNat_natCast, si]
      refine am_iald hC dX5_order_43 s1 (by omega) (by omega) ?_
      rw [Int.toNat_natCast, sj]
      refine am_icmp_eq hC 68 dX5_order_44 rfl (by omega) (by omega) (fun c44 => ?_) (fun c44 => ?_)
      · refine am_aload0 hC dX5_order_68 ?_
        refine am_iload1 hC dX5_order_69 ?_
        refine am_iload2 hC dX5_order_70 ?_
        refine am_iconst hC dX5_order_71 ?_
        refine am_V3_qN hC 5 dX5_order_72 kX5_94 (m_Mneed (more := 4) _ _ v2.1 I1 J1 (by decide) oI oJ) k2 rfl (Nat.le_of_ble_eq_true rfl) (by decide) (by omega) (by omega) (fun h3 r => ?_)
        obtain ⟨wd3, ⟨n1, n2, hw, b1, b2, q1, q2, q3, q4⟩, e3⟩ := r
        have v3 : eS h3 s 0 wd3 R := by rw [e3]; exact v2.1.o (by omega)
        have o3 : only h h3 K45 := v2.2.tr (by rw [e3]; exact only.o)
        have k3 := v3.1
        clear e3
        refine am_aload0 hC dX5_order_75 ?_
        refine am_iload1 hC dX5_order_76 ?_
        refine am_iconst hC dX5_order_77 ?_
        refine am_iconst hC dX5_order_78 ?_
        refine am_V3_qN hC 5 dX5_order_79 kX5_98 (m_Mtake (x := 0) (y := 1) _ _ v3 I1 oI (by decide) (by decide) (by decide)) k3 rfl (Nat.le_of_ble_eq_true rfl) (by decide) (by omega) (by omega) (fun h4 r => ?_)
        obtain ⟨R4, rfl, a4, b4, f4⟩ := r
        have v4 := v3.r (R' := R4)
        have k4 := v4.1
        refine am_aload0 hC dX5_order_82 ?_
        refine am_iload2 hC dX5_order_83 ?_
        refine am_iconst hC dX5_order_84 ?_
        refine am_iconst hC dX5_order_85 ?_
        refine am_V3_qN hC 5 dX5_order_86 kX5_98 (m_Mtake (x := 2) (y := 3) _ _ v4 J1 oJ (by decide) (by decide) (by decide)) k4 rfl (Nat.le_of_ble_eq_true rfl) (by decide) (by omega) (by omega) (fun h5 r => ?_)
        obtain ⟨R5, e5, c5, d5, f5⟩ := r
        rw [am_up_up] at e5
        subst e5
        have v5 := v3.r (R' := R5)
        have k5 := v5.1
        have a5 := a4.on f5 (by decide)
        have b5 := b4.on f5 (by decide)
        refine am_aload0 hC dX5_order_89 ?_
        refine am_iconst hC dX5_order_90 ?_
        refine am_iconst hC dX5_order_91 ?_
        refine am_iconst hC dX5_order_92 ?_
        refine am_V3_qN hC 5 dX5_order_93 kX5_101 (m_Mproduct (x := 0) (y := 3) (t := 4) _ _ v5.x (by decide) (by decide) (by decide) (by decide) (by decide) a5 d5 (fitM q1 q4 (by omega))) k5 rfl (Nat.le_of_ble_eq_true rfl) (by decide) (by omega) (by omega) (fun h6 r => ?_)
        obtain ⟨R6, e6, g6, f6⟩ := r
        rw [am_up_up] at e6
        subst e6
        have v6 := v3.r (R' := R6)
        have k6 := v6.1
        have b6 := b5.kept f6 (by decide)
        have c6 := c5.kept f6 (by decide)
        refine am_aload0 hC dX5_order_96 ?_
        refine am_iconst hC dX5_order_97 ?_
        refine am_iconst hC dX5_order_98 ?_
        refine am_iconst hC dX5_order_99 ?_
        refine am_V3_qN hC 5 dX5_order_100 kX5_101 (m_Mproduct (x := 2) (y := 1) (t := 5) _ _ v6.x (by decide) (by decide) (by decide) (by decide) (by decide) c6 b6 (fitM q3 q2 (by omega))) k6 rfl (Nat.le_of_ble_eq_true rfl) (by decide) (by omega) (by omega) (fun h7 r => ?_)
        obtain ⟨R7, e7, g7, f7⟩ := r
        rw [am_up_up] at e7
        subst e7
        have v7 := v3.r (R' := R7)
        have k7 := v7.1
        have g67 := g6.kept f7 (by decide)
        obtain ⟨⟨fs', s1', s2'⟩, -, -⟩ := v7.2.2.2.1
        have si' := s2' I I1
        rw [← hsu] at si'
        have cs := cmpN_s ((s.2.1 I).2.1 * (s.2.1 J).2.2) ((s.2.1 J).2.1 * (s.2.1 I).2.2)
        have cs' := cmpN_s ((s.2.1 J).2.1 * (s.2.1 I).2.2) ((s.2.1 I).2.1 * (s.2.1 J).2.2)
        obtain ⟨cv, hcv⟩ : ∃ cv, cv = cmpN ((s.2.1 I).2.1 * (s.2.1 J).2.2) ((s.2.1 J).2.1 * (s.2.1 I).2.2) := ⟨_, rfl⟩
        obtain ⟨cv', hcv'⟩ : ∃ cv', cv' = cmpN ((s.2.1 J).2.1 * (s.2.1 I).2.2) ((s.2.1 I).2.1 * (s.2.1 J).2.2) := ⟨_, rfl⟩
        rw [← hcv] at cs aA
        rw [← hcv'] at cs'
        have zI : su = 0 → (s.2.1 I).2.1 * (s.2.1 J).2.2 = 0 := fun c => by rw [oI.2.1.mp (by rw [← hsu]; exact c), Nat.zero_mul]
        have zJ : sv = 0 → (s.2.1 J).2.1 * (s.2.1 I).2.2 = 0 := fun c => by rw [oJ.2.1.mp (by rw [← hsv]; exact c), Nat.zero_mul]
        have ans : su = sv → (if su < 0 then cv' else cv) = su * cv := fun c => by
          rcases sg1 with e | e | e
          · rw [if_pos (by omega), e]; omega
          · have := zI e; have := zJ (by omega); rw [if_neg (by omega), e]; omega
          · rw [if_neg (by omega), e]; omega
        refine am_aload0 hC dX5_order_103 ?_
        refine am_getf hC dX5_order_104 fX5_17 k7 rfl ?_
        refine am_iload1 hC dX5_order_107 ?_
        refine am_iald hC dX5_order_108 s1' (by omega) (by omega) ?_
        rw [Int.toNat_natCast, si']
        refine am_if_ge hC 121 dX5_order_109 rfl (by omega) (fun c109 => ?_) (fun c109 => ?_)
        rotate_left
        · refine am_aload0 hC dX5_order_112 ?_
          refine am_iconst hC dX5_order_113 ?_
          refine am_iconst hC dX5_order_114 ?_
          refine am_V2_pI hC 5 dX5_order_115 kX5_50 (m_Mcompare (x := 5) (y := 4) _ _ v7.x (by decide) (by decide) g7 g67 (fitM q3 q2 (by omega)) (fitM q1 q4 (by omega))) k7 rfl (Nat.le_of_ble_eq_true rfl) (by decide) (by omega) (by omega) ?_
          refine am_goto hC 127 dX5_order_118 rfl ?_
          have an := ans (by omega)
          rw [if_pos (by omega)] at an
          exact am_iret hC hT dX5_order_127 (by omega) (by omega) ⟨_, rfl, Or.inl ⟨oij, by rw [aA, if_pos (by omega), ← an, hcv'], ⟨_, _, v7⟩, o3.tr (only.r (R := R))⟩⟩
        refine am_aload0 hC dX5_order_121 ?_
        refine am_iconst hC dX5_order_122 ?_
        refine am_iconst hC dX5_order_123 ?_
        refine am_V2_pI hC 5 dX5_order_124 kX5_50 (m_Mcompare (x := 4) (y := 5) _ _ v7.x (by decide) (by decide) g67 g7 (fitM q1 q4 (by omega)) (fitM q3 q2 (by omega))) k7 rfl (Nat.le_of_ble_eq_true rfl) (by decide) (by omega) (by omega) ?_
        have an := ans (by omega)
        rw [if_neg (by omega)] at an
        exact am_iret hC hT dX5_order_127 (by omega) (by omega) ⟨_, rfl, Or.inl ⟨oij, by rw [aA, if_pos (by omega), ← an, hcv], ⟨_, _, v7⟩, o3.tr (only.r (R := R))⟩⟩
        skip
      · refine am_aload0 hC dX5_order_47 ?_
        refine am_getf hC dX5_order_48 fX5_17 k2 rfl ?_
        refine am_iload1 hC dX5_order_51 ?_
        refine am_iald hC dX5_order_52 s1 (by omega) (by omega) ?_
        refine am_aload0 hC dX5_order_53 ?_
        refine am_getf hC dX5_order_54 fX5_17 k2 rfl ?_
        refine am_iload2 hC dX5_order_57 ?_
        rw [Int.toNat_natCast, si]
        refine am_iald hC dX5_order_58 s1 (by omega) (by omega) ?_
        rw [Int.toNat_natCast, sj]
        refine am_icmp_ge hC 66 dX5_order_59 rfl (by omega) (by omega) (fun c59 => ?_) (fun c59 => ?_)
        · refine am_iconst hC dX5_order_66 ?_
          first
            | exact am_iret hC hT dX5_order_67 (by omega) (by omega) ⟨_, rfl, Or.inl ⟨oij, by rw [aA, if_neg (by omega), if_pos (by omega)], ⟨_, _, v2.1⟩, v2.2⟩⟩
            | exact am_iret hC hT dX5_order_67 (by omega) (by omega) ⟨_, rfl, Or.inl ⟨oij, by rw [aA, if_neg (by omega), if_neg (by omega)], ⟨_, _, v2.1⟩, v2.2⟩⟩
        · refine am_iconst hC dX5_order_62 ?_
          refine am_goto hC 67 dX5_order_63 rfl ?_
          first
            | exact am_iret hC hT dX5_order_67 (by omega) (by omega) ⟨_, rfl, Or.inl ⟨oij, by rw [aA, if_neg (by omega), if_pos (by omega)], ⟨_, _, v2.1⟩, v2.2⟩⟩
            | exact am_iret hC hT dX5_order_67 (by omega) (by omega) ⟨_, rfl, Or.inl ⟨oij, by rw [aA, if_neg (by omega), if_neg (by omega)], ⟨_, _, v2.1⟩, v2.2⟩⟩
    · exact absurd c27 (by decide)
  refine am_aload0 hC dX5_order_0 ?_
  refine am_iload1 hC dX5_order_1 ?_
  refine am_S1_qI hC dX5_order_2 kX5_91 (m_MnoValue _ _ hi) (Nat.le_of_ble_eq_true rfl) (by decide) (by omega) (by omega) (fun v h1 q => ?_)
  obtain ⟨e, q⟩ := q
  rw [e]
  clear e
  have nq : v ≠ 0 → ¬ okV i := fun c => by rcases q with x | x; (· exact absurd x.1 c); (· exact x.2)
  have yq : v = 0 → okV i := fun c => by rcases q with x | x; (· exact x.2); (· omega)
  refine am_if_ne hC 15 dX5_order_5 rfl (by omega) (fun c5 => ?_) (fun c5 => ?_)
  · refine am_iconst hC dX5_order_15 ?_
    refine am_goto hC 20 dX5_order_16 rfl ?_
    refine am_putf hC dX5_order_20 pX5_33 (fun q => by cases q) h0 (am_fitI _) (Nat.le_of_ble_eq_true rfl) ?_
    rw [rO_set0]
    first
      | exact bad _ rfl (fun c => nq (by omega) c.1)
      | exact bad _ rfl (fun c => nq' (by omega) c.2)
      | exact good _ rfl (yq (by omega)) (yq' (by omega))
  · refine am_iload2 hC dX5_order_8 ?_
    refine am_S1_qI hC dX5_order_9 kX5_91 (m_MnoValue _ _ hj) (Nat.le_of_ble_eq_true rfl) (by decide) (by omega) (by omega) (fun v' h1' q' => ?_)
    obtain ⟨e, q'⟩ := q'
    rw [e]
    clear e
    have nq' : v' ≠ 0 → ¬ okV j := fun c => by rcases q' with x | x; (· exact absurd x.1 c); (· exact x.2)
    have yq' : v' = 0 → okV j := fun c => by rcases q' with x | x; (· exact x.2); (· omega)
    refine am_if_eq hC 19 dX5_order_12 rfl (by omega) (fun c12 => ?_) (fun c12 => ?_)
    · refine am_iconst hC dX5_order_19 ?_
      refine am_putf hC dX5_order_20 pX5_33 (fun q => by cases q) h0 (am_fitI _) (Nat.le_of_ble_eq_true rfl) ?_
      rw [rO_set0]
      first
        | exact bad _ rfl (fun c => nq (by omega) c.1)
        | exact bad _ rfl (fun c => nq' (by omega) c.2)
        | exact good _ rfl (yq (by omega)) (yq' (by omega))
    · refine am_iconst hC dX5_order_15 ?_
      refine am_goto hC 20 dX5_order_16 rfl ?_
      refine am_putf hC dX5_order_20 pX5_33 (fun q => by cases q) h0 (am_fitI _) (Nat.le_of_ble_eq_true rfl) ?_
      rw [rO_set0]
      first
        | exact bad _ rfl (fun c => nq (by omega) c.1)
        | exact bad _ rfl (fun c => nq' (by omega) c.2)
        | exact good _ rfl (yq (by omega)) (yq' (by omega))

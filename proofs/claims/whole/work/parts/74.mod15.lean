/-! the Model's add -/
theorem m_Madd (l : Launch) (g : am_G) {h : am_H} {s : aS} {th i j : Int} {wd : Nat} {R : Nat → Int} (w : eS h s th wd R) (ok : aOK s) (hi : IR i) (hj : IR j) :
    am_Met l g yX5_add (am_W1 yX5_add cX5_add 4 (some .int)) 4 0 0 [.ref 43, vI i, vI j] h (qI fun v h1 => ((okV i ∧ okV j) ∧ v = (aAdd s i.toNat j.toNat).1 ∧ mOut h h1 0 (aAdd s i.toNat j.toNat).2) ∨ (¬ (okV i ∧ okV j) ∧ mOut h h1 1 s)) := by
  have h0 := w.1
  refine am_mk [some (.ref 43), some (vI i), some (vI j), none] 1 rfl rfl (by decide +kernel) (fun z hl hg hC hT _ => ?_)
  have tv : ∀ (t : Int) (H : am_H), H = am_up h 43 (rO t wd s.1 s.2.2.1 s.2.2.2.2.1) → eS H s t wd R ∧ only h H K45 := fun t H et => by rw [et]; exact ⟨w.o w.2.2.1, only.o⟩
  have bad : ∀ H : am_H, H = am_up h 43 (rO 1 wd s.1 s.2.2.1 s.2.2.2.2.1) → ¬ (okV i ∧ okV j) → am_W z 23 0 0 H [some (.ref 43), some (vI i), some (vI j), none] [] := by
    intro H e nb
    have v2 := tv 1 H e
    have k2 := v2.1.1
    refine am_aload0 hC dX5_add_23 ?_
    refine am_getf hC dX5_add_24 fX5_33 k2 rfl ?_
    refine am_if_le hC 32 dX5_add_27 rfl (by omega) (fun c27 => ?_) (fun c27 => ?_)
    · exact absurd c27 (by decide)
    · refine am_iconst hC dX5_add_30 ?_
      exact am_iret hC hT dX5_add_31 (by omega) (by omega) ⟨_, rfl, Or.inr ⟨nb, ⟨_, _, v2.1⟩, v2.2⟩⟩
  have good : ∀ H : am_H, H = am_up h 43 (rO 0 wd s.1 s.2.2.1 s.2.2.2.2.1) → okV i → okV j → am_W z 23 0 0 H [some (.ref 43), some (vI i), some (vI j), none] [] := by
    intro H e oi oj
    have v2 := tv 0 H e
    have k2 := v2.1.1
    obtain ⟨I, hI⟩ : ∃ I, I = i.toNat := ⟨_, rfl⟩
    obtain ⟨J, hJ⟩ : ∃ J, J = j.toNat := ⟨_, rfl⟩
    have I1 : I < 150 := by have := oi.1; have := oi.2; omega
    have J1 : J < 150 := by have := oj.1; have := oj.2; omega
    have ei : i = (I : Int) := by have := oi.1; omega
    have ej : j = (J : Int) := by have := oj.1; omega
    have oI := ok.2.1 I I1
    have oJ := ok.2.1 J J1
    rw [← hI, ← hJ] at hT
    rw [ei, ej]
    rw [ei, ej] at hT
    obtain ⟨su, hsu⟩ : ∃ su, su = (s.2.1 I).1 := ⟨_, rfl⟩
    obtain ⟨sv, hsv⟩ : ∃ sv, sv = (s.2.1 J).1 := ⟨_, rfl⟩
    obtain ⟨L, hL⟩ : ∃ L, L = (s.2.1 I).2.1 * (s.2.1 J).2.2 := ⟨_, rfl⟩
    obtain ⟨T, hT2⟩ : ∃ T, T = (s.2.1 J).2.1 * (s.2.1 I).2.2 := ⟨_, rfl⟩
    obtain ⟨D, hD⟩ : ∃ D, D = (s.2.1 I).2.2 * (s.2.1 J).2.2 := ⟨_, rfl⟩
    have D0 : 0 < D := by rw [hD]; exact Nat.mul_pos oI.2.2.1 oJ.2.2.1
    have sg1 := oI.1
    have sg2 := oJ.1
    rw [← hsu] at sg1
    rw [← hsv] at sg2
    have sg := sg3 sg1 sg2
    have aA : aAdd s I J = if 0 ≤ su * sv then aPut s (if su ≠ 0 then su else sv) (L + T) D else if T ≤ L then aPut s su (L - T) D else aPut s sv (T - L) D := by rw [aAdd, hL, hT2, hD, hsu, hsv]
    have oij : okV (I : Int) ∧ okV (J : Int) := ⟨by rw [← ei]; exact oi, by rw [← ej]; exact oj⟩
    have mk : ∀ (h3 : am_H) (wd3 N : Nat) (R' : Nat → Int) (sn : Int), eS (am_up h3 44 (eI 1920 R')) s 0 wd3 R' → only h h3 K45 → rg R' 4 N → rg R' 2 D → N < 32768 ^ wd3 → D < 32768 ^ wd3 → aAdd s I J = aPut s sn N D → am_W z 158 0 0 (am_up h3 44 (eI 1920 R')) [some (.ref 43), some (vI (I : Int)), some (vI (J : Int)), some (vI sn)] [] := by
      intro h3 wd3 N R' sn v7 o3 g4 g2 l4 l2 ea
      have k7 := v7.1
      refine am_aload0 hC dX5_add_158 ?_
      refine am_iload3 hC dX5_add_159 ?_
      refine am_iconst hC dX5_add_160 ?_
      refine am_iconst hC dX5_add_161 ?_
      refine am_V3_qI hC 5 dX5_add_162 kX5_87 (m_Mmake (x := 4) (y := 2) _ _ v7 ok.1 (by decide) (by decide) g4 g2 l4 l2 D0) k7 rfl (Nat.le_of_ble_eq_true rfl) (by decide) (by omega) (by omega) (fun v h8 r => ?_)
      obtain ⟨ev, ⟨R8, v8, -⟩, o8⟩ := r
      exact am_iret hC hT dX5_add_165 (by omega) (by omega) ⟨_, rfl, Or.inl ⟨oij, by rw [ea]; exact ev, ⟨_, _, by rw [ea]; exact v8⟩, o3.tr ((only.r (R := R)).tr o8)⟩⟩
    refine am_aload0 hC dX5_add_23 ?_
    refine am_getf hC dX5_add_24 fX5_33 k2 rfl ?_
    refine am_if_le hC 32 dX5_add_27 rfl (by omega) (fun c27 => ?_) (fun c27 => ?_)
    · refine am_aload0 hC dX5_add_32 ?_
      refine am_iload1 hC dX5_add_33 ?_
      refine am_iload2 hC dX5_add_34 ?_
      refine am_iconst hC dX5_add_35 ?_
      refine am_V3_qN hC 5 dX5_add_36 kX5_94 (m_Mneed (more := 4) _ _ v2.1 I1 J1 (by decide) oI oJ) k2 rfl (Nat.le_of_ble_eq_true rfl) (by decide) (by omega) (by omega) (fun h3 r => ?_)
      obtain ⟨wd3, ⟨n1, n2, hw, b1, b2, q1, q2, q3, q4⟩, e3⟩ := r
      have v3 : eS h3 s 0 wd3 R := by rw [e3]; exact v2.1.o (by omega)
      have o3 : only h h3 K45 := v2.2.tr (by rw [e3]; exact only.o)
      have k3 := v3.1
      clear e3
      refine am_aload0 hC dX5_add_39 ?_
      refine am_iload1 hC dX5_add_40 ?_
      refine am_iconst hC dX5_add_41 ?_
      refine am_iconst hC dX5_add_42 ?_
      refine am_V3_qN hC 5 dX5_add_43 kX5_98 (m_Mtake (x := 0) (y := 1) _ _ v3 I1 oI (by decide) (by decide) (by decide)) k3 rfl (Nat.le_of_ble_eq_true rfl) (by decide) (by omega) (by omega) (fun h4 r => ?_)
      obtain ⟨R4, rfl, a4, b4, f4⟩ := r
      have v4 := v3.r (R' := R4)
      have k4 := v4.1
      refine am_aload0 hC dX5_add_46 ?_
      refine am_iload2 hC dX5_add_47 ?_
      refine am_iconst hC dX5_add_48 ?_
      refine am_iconst hC dX5_add_49 ?_
      refine am_V3_qN hC 5 dX5_add_50 kX5_98 (m_Mtake (x := 2) (y := 3) _ _ v4 J1 oJ (by decide) (by decide) (by decide)) k4 rfl (Nat.le_of_ble_eq_true rfl) (by decide) (by omega) (by omega) (fun h5 r => ?_)
      obtain ⟨R5, e5, c5, d5, f5⟩ := r
      rw [am_up_up] at e5
      subst e5
      have v5 := v3.r (R' := R5)
      have k5 := v5.1
      have a5 := a4.on f5 (by decide)
      have b5 := b4.on f5 (by decide)
      refine am_aload0 hC dX5_add_53 ?_
      refine am_iconst hC dX5_add_54 ?_
      refine am_iconst hC dX5_add_55 ?_
      refine am_iconst hC dX5_add_56 ?_
      refine am_V3_qN hC 5 dX5_add_57 kX5_101 (m_Mproduct (x := 0) (y := 3) (t := 4) _ _ v5.x (by decide) (by decide) (by decide) (by decide) (by decide) a5 d5 (fitM q1 q4 (by omega))) k5 rfl (Nat.le_of_ble_eq_true rfl) (by decide) (by omega) (by omega) (fun h6 r => ?_)
      obtain ⟨R6, e6, g6, f6⟩ := r
      rw [am_up_up] at e6
      subst e6
      have v6 := v3.r (R' := R6)
      have k6 := v6.1
      have b6 := b5.kept f6 (by decide)
      have c6 := c5.kept f6 (by decide)
      have d6 := d5.kept f6 (by decide)
      refine am_aload0 hC dX5_add_60 ?_
      refine am_iconst hC dX5_add_61 ?_
      refine am_iconst hC dX5_add_62 ?_
      refine am_iconst hC dX5_add_63 ?_
      refine am_V3_qN hC 5 dX5_add_64 kX5_101 (m_Mproduct (x := 2) (y := 1) (t := 5) _ _ v6.x (by decide) (by decide) (by decide) (by decide) (by decide) c6 b6 (fitM q3 q2 (by omega))) k6 rfl (Nat.le_of_ble_eq_true rfl) (by decide) (by omega) (by omega) (fun h7 r => ?_)
      obtain ⟨R7, e7, g7, f7⟩ := r
      rw [am_up_up] at e7
      subst e7
      have v7 := v3.r (R' := R7)
      have k7 := v7.1
      have g67 := g6.kept f7 (by decide)
      have b7 := b6.kept f7 (by decide)
      have d7 := d6.kept f7 (by decide)
      refine am_aload0 hC dX5_add_67 ?_
      refine am_iconst hC dX5_add_68 ?_
      refine am_iconst hC dX5_add_69 ?_
      refine am_iconst hC dX5_add_70 ?_
      refine am_V3_qN hC 5 dX5_add_71 kX5_101 (m_Mproduct (x := 1) (y := 3) (t := 2) _ _ v7.x (by decide) (by decide) (by decide) (by decide) (by decide) b7 d7 (fitM q2 q4 (by omega))) k7 rfl (Nat.le_of_ble_eq_true rfl) (by decide) (by omega) (by omega) (fun h8 r => ?_)
      obtain ⟨R8, e8, g8, f8⟩ := r
      rw [am_up_up] at e8
      subst e8
      have v8 := v3.r (R' := R8)
      have k8 := v8.1
      have x4 := g67.kept f8 (by decide)
      have x5 := g7.kept f8 (by decide)
      rw [← hD] at g8
      rw [← hL] at x4
      rw [← hT2] at x5
      obtain ⟨⟨fs, s1, s2⟩, -, -⟩ := v8.2.2.2.1
      have si := s2 I I1
      have sj := s2 J J1
      rw [← hsu] at si
      rw [← hsv] at sj
      have lL : L < 32768 ^ (n1 + n2) := by rw [hL]; exact fitM q1 q4 (Nat.le_refl _)
      have lT : T < 32768 ^ (n1 + n2) := by rw [hT2]; exact fitM q3 q2 (by omega)
      have lD : D < 32768 ^ wd3 := by rw [hD]; exact fitM q2 q4 (by omega)
      have lw : 2 * 32768 ^ (n1 + n2) ≤ 32768 ^ wd3 := Nat.le_trans (by rw [Nat.pow_succ']; exact Nat.mul_le_mul_right _ (by decide)) (Nat.pow_le_pow_right (n := 32768) (by decide) (show n1 + n2 + 1 ≤ wd3 by omega))
      have cs := cmpN_s L T
      refine am_aload0 hC dX5_add_74 ?_
      refine am_getf hC dX5_add_75 fX5_17 k8 rfl ?_
      refine am_iload1 hC dX5_add_78 ?_
      refine am_iald hC dX5_add_79 s1 (by omega) (by omega) ?_
      rw [Int.toNat_natCast, si]
      refine am_istore3 hC dX5_add_80 rfl ?_
      refine am_aload0 hC dX5_add_81 ?_
      refine am_getf hC dX5_add_82 fX5_17 k8 rfl ?_
      refine am_iload1 hC dX5_add_85 ?_
      refine am_iald hC dX5_add_86 s1 (by omega) (by omega) ?_
      refine am_aload0 hC dX5_add_87 ?_
      refine am_getf hC dX5_add_88 fX5_17 k8 rfl ?_
      refine am_iload2 hC dX5_add_91 ?_
      refine am_iald hC dX5_add_92 s1 (by omega) (by omega) ?_
      rw [Int.toNat_natCast, Int.toNat_natCast, si, sj]
      refine am_imul hC dX5_add_93 ?_
      refine am_if_lt hC 121 dX5_add_94 rfl (by omega) (fun c94 => ?_) (fun c94 => ?_)
      · refine am_aload0 hC dX5_add_121 ?_
        refine am_iconst hC dX5_add_122 ?_
        refine am_iconst hC dX5_add_123 ?_
        refine am_V2_pI hC 5 dX5_add_124 kX5_50 (m_Mcompare (x := 4) (y := 5) _ _ v8.x (by decide) (by decide) x4 x5 (by omega) (by omega)) k8 rfl (Nat.le_of_ble_eq_true rfl) (by decide) (by omega) (by omega) ?_
        refine am_if_lt hC 139 dX5_add_127 rfl (by omega) (fun c127 => ?_) (fun c127 => ?_)
        · refine am_aload0 hC dX5_add_139 ?_
          refine am_iconst hC dX5_add_140 ?_
          refine am_iconst hC dX5_add_141 ?_
          refine am_V2_qN hC 5 dX5_add_142 kX5_54 (m_Mminus (x := 5) (y := 4) _ _ v8.x (by decide) (by decide) (by decide) x5 x4 (by omega) (by omega)) k8 rfl (Nat.le_of_ble_eq_true rfl) (by decide) (by omega) (by omega) (fun h9 r => ?_)
          obtain ⟨R9, e9, g9, f9⟩ := r
          rw [am_up_up] at e9
          subst e9
          have v9 := v3.r (R' := R9)
          have k9 := v9.1
          have g82 := g8.kept f9 (by decide)
          refine am_aload0 hC dX5_add_145 ?_
          refine am_iconst hC dX5_add_146 ?_
          refine am_iconst hC dX5_add_147 ?_
          refine am_V2_qN hC 5 dX5_add_148 kX5_62 (m_Mcopy (x := 4) (y := 5) _ _ v9.x (by decide) (by decide) g9) k9 rfl (Nat.le_of_ble_eq_true rfl) (by decide) (by omega) (by omega) (fun ha r => ?_)
          obtain ⟨Ra, ea, ga, fa⟩ := r
          rw [am_up_up] at ea
          subst ea
          have va := v3.r (R' := Ra)
          have ka := va.1
          obtain ⟨⟨fsa, s1a, s2a⟩, -, -⟩ := va.2.2.2.1
          have sja := s2a J J1
          rw [← hsv] at sja
          have ga2 := g82.kept fa (by decide)
          refine am_aload0 hC dX5_add_151 ?_
          refine am_getf hC dX5_add_152 fX5_17 ka rfl ?_
          refine am_iload2 hC dX5_add_155 ?_
          refine am_iald hC dX5_add_156 s1a (by omega) (by omega) ?_
          rw [Int.toNat_natCast, sja]
          refine am_istore3 hC dX5_add_157 rfl ?_
          first
            | exact mk h3 wd3 (L + T) R9 su v9 o3 g9 g82 (by omega) lD (by rw [aA, if_pos (by omega), if_pos (by omega)])
            | exact mk h3 wd3 (L - T) R9 su v9 o3 g9 g82 (by omega) lD (by rw [aA, if_neg (by omega), if_pos (by omega)])
            | exact mk h3 wd3 (T - L) Ra sv va o3 ga ga2 (by omega) lD (by rw [aA, if_neg (by omega), if_neg (by omega)])
        · refine am_aload0 hC dX5_add_130 ?_
          refine am_iconst hC dX5_add_131 ?_
          refine am_iconst hC dX5_add_132 ?_
          refine am_V2_qN hC 5 dX5_add_133 kX5_54 (m_Mminus (x := 4) (y := 5) _ _ v8.x (by decide) (by decide) (by decide) x4 x5 (by omega) (by omega)) k8 rfl (Nat.le_of_ble_eq_true rfl) (by decide) (by omega) (by omega) (fun h9 r => ?_)
          obtain ⟨R9, e9, g9, f9⟩ := r
          rw [am_up_up] at e9
          subst e9
          have v9 := v3.r (R' := R9)
          have g82 := g8.kept f9 (by decide)
          refine am_goto hC 158 dX5_add_136 rfl ?_
          first
            | exact mk h3 wd3 (L + T) R9 su v9 o3 g9 g82 (by omega) lD (by rw [aA, if_pos (by omega), if_pos (by omega)])
            | exact mk h3 wd3 (L - T) R9 su v9 o3 g9 g82 (by omega) lD (by rw [aA, if_neg (by omega), if_pos (by omega)])
            | exact mk h3 wd3 (T - L) Ra sv va o3 ga ga2 (by omega) lD (by rw [aA, if_neg (by omega), if_neg (by omega)])
      · refine am_aload0 hC dX5_add_97 ?_
        refine am_iconst hC dX5_add_98 ?_
        refine am_iconst hC dX5_add_99 ?_
        refine am_V2_qN hC 5 dX5_add_100 kX5_104 (m_Mplus (x := 4) (y := 5) _ _ v8.x (by decide) (by decide) (by decide) x4 x5 (by omega)) k8 rfl (Nat.le_of_ble_eq_true rfl) (by decide) (by omega) (by omega) (fun h9 r => ?_)
        obtain ⟨R9, e9, g9, f9⟩ := r
        rw [am_up_up] at e9
        subst e9
        have v9 := v3.r (R' := R9)
        have k9 := v9.1
        obtain ⟨⟨fs9, s19, s29⟩, -, -⟩ := v9.2.2.2.1
        have sj9 := s29 J J1
        rw [← hsv] at sj9
        have g82 := g8.kept f9 (by decide)
        refine am_iload3 hC dX5_add_103 ?_
        refine am_if_ne hC 116 dX5_add_104 rfl (by omega) (fun c104 => ?_) (fun c104 => ?_)
        · refine am_iload3 hC dX5_add_116 ?_
          refine am_istore3 hC dX5_add_117 rfl ?_
          refine am_goto hC 158 dX5_add_118 rfl ?_
          first
            | exact mk h3 wd3 (L + T) R9 su v9 o3 g9 g82 (by omega) lD (by rw [aA, if_pos (by omega), if_pos (by omega)])
            | exact mk h3 wd3 (L - T) R9 su v9 o3 g9 g82 (by omega) lD (by rw [aA, if_neg (by omega), if_pos (by omega)])
            | exact mk h3 wd3 (T - L) Ra sv va o3 ga ga2 (by omega) lD (by rw [aA, if_neg (by omega), if_neg (by omega)])
        · refine am_aload0 hC dX5_add_107 ?_
          refine am_getf hC dX5_add_108 fX5_17 k9 rfl ?_
          refine am_iload2 hC dX5_add_111 ?_
          refine am_iald hC dX5_add_112 s19 (by omega) (by omega) ?_
          rw [Int.toNat_natCast, sj9]
          refine am_goto hC 117 dX5_add_113 rfl ?_
          refine am_istore3 hC dX5_add_117 rfl ?_
          refine am_goto hC 158 dX5_add_118 rfl ?_
          exact mk h3 wd3 (L + T) R9 sv v9 o3 g9 g82 (by omega) lD (by rw [aA, if_pos (by omega), if_neg (by omega)])
    · exact absurd c27 (by decide)
  refine am_aload0 hC dX5_add_0 ?_
  refine am_iload1 hC dX5_add_1 ?_
  refine am_S1_qI hC dX5_add_2 kX5_91 (m_MnoValue _ _ hi) (Nat.le_of_ble_eq_true rfl) (by decide) (by omega) (by omega) (fun v h1 q => ?_)
  obtain ⟨e, q⟩ := q
  rw [e]
  clear e
  have nq : v ≠ 0 → ¬ okV i := fun c => by rcases q with x | x; (· exact absurd x.1 c); (· exact x.2)
  have yq : v = 0 → okV i := fun c => by rcases q with x | x; (· exact x.2); (· omega)
  refine am_if_ne hC 15 dX5_add_5 rfl (by omega) (fun c5 => ?_) (fun c5 => ?_)
  · refine am_iconst hC dX5_add_15 ?_
    refine am_goto hC 20 dX5_add_16 rfl ?_
    refine am_putf hC dX5_add_20 pX5_33 (fun q => by cases q) h0 (am_fitI _) (Nat.le_of_ble_eq_true rfl) ?_
    rw [rO_set0]
    first
      | exact bad _ rfl (fun c => nq (by omega) c.1)
      | exact bad _ rfl (fun c => nq' (by omega) c.2)
      | exact good _ rfl (yq (by omega)) (yq' (by omega))
  · refine am_iload2 hC dX5_add_8 ?_
    refine am_S1_qI hC dX5_add_9 kX5_91 (m_MnoValue _ _ hj) (Nat.le_of_ble_eq_true rfl) (by decide) (by omega) (by omega) (fun v' h1' q' => ?_)
    obtain ⟨e, q'⟩ := q'
    rw [e]
    clear e
    have nq' : v' ≠ 0 → ¬ okV j := fun c => by rcases q' with x | x; (· exact absurd x.1 c); (· exact x.2)
    have yq' : v' = 0 → okV j := fun c => by rcases q' with x | x; (· exact x.2); (· omega)
    refine am_if_eq hC 19 dX5_add_12 rfl (by omega) (fun c12 => ?_) (fun c12 => ?_)
    · refine am_iconst hC dX5_add_19 ?_
      refine am_putf hC dX5_add_20 pX5_33 (fun q => by cases q) h0 (am_fitI _) (Nat.le_of_ble_eq_true rfl) ?_
      rw [rO_set0]
      first
        | exact bad _ rfl (fun c => nq (by omega) c.1)
        | exact bad _ rfl (fun c => nq' (by omega) c.2)
        | exact good _ rfl (yq (by omega)) (yq' (by omega))
    · refine am_iconst hC dX5_add_15 ?_
      refine am_goto hC 20 dX5_add_16 rfl ?_
      refine am_putf hC dX5_add_20 pX5_33 (fun q => by cases q) h0 (am_fitI _) (Nat.le_of_ble_eq_true rfl) ?_
      rw [rO_set0]
      first
        | exact bad _ rfl (fun c => nq (by omega) c.1)
        | exact bad _ rfl (fun c => nq' (by omega) c.2)
        | exact good _ rfl (yq (by omega)) (yq' (by omega))

/-! the Model's over -/
theorem m_Mover (l : Launch) (g : am_G) {h : am_H} {s : aS} {th i j : Int} {wd : Nat} {R : Nat → Int} (w : eS h s th wd R) (ok : aOK s) (hi : IR i) (hj : IR j) :
    am_Met l g yX5_over (am_W1 yX5_over cX5_over 3 (some .int)) 4 0 0 [.ref 43, vI i, vI j] h (qI fun v h1 => ((okV i ∧ okV j) ∧ (s.2.1 j.toNat).1 ≠ 0 ∧ v = (aOver s i.toNat j.toNat).1 ∧ mOut h h1 0 (aOver s i.toNat j.toNat).2) ∨ (¬ (okV i ∧ okV j) ∧ mOut h h1 1 s) ∨ ((okV i ∧ okV j) ∧ (s.2.1 j.toNat).1 = 0 ∧ mOut h h1 2 s)) := by
  have h0 := w.1
  refine am_mk [some (.ref 43), some (vI i), some (vI j)] 0 rfl rfl (by decide +kernel) (fun z hl hg hC hT _ => ?_)
  have tv : ∀ (t : Int) (H : am_H), H = am_up h 43 (rO t wd s.1 s.2.2.1 s.2.2.2.2.1) → eS H s t wd R ∧ only h H K45 := fun t H et => by rw [et]; exact ⟨w.o w.2.2.1, only.o⟩
  have bad : ∀ (H : am_H) (e : Int), (e = 1 ∨ e = 2) → H = am_up h 43 (rO e wd s.1 s.2.2.1 s.2.2.2.2.1) → ((¬ (okV i ∧ okV j) ∧ e = 1) ∨ ((okV i ∧ okV j) ∧ (s.2.1 j.toNat).1 = 0 ∧ e = 2)) → am_W z 36 0 0 H [some (.ref 43), some (vI i), some (vI j)] [] := by
    intro H e he e1 nb
    have v2 := tv e H e1
    have k2 := v2.1.1
    refine am_aload0 hC dX5_over_36 ?_
    refine am_getf hC dX5_over_37 fX5_33 k2 rfl ?_
    refine am_if_le hC 45 dX5_over_40 rfl (by omega) (fun c40 => ?_) (fun c40 => ?_)
    · exact absurd c40 (by omega)
    · refine am_iconst hC dX5_over_43 ?_
      exact am_iret hC hT dX5_over_44 (by omega) (by omega) ⟨_, rfl, Or.inr (by rcases nb with ⟨nb, rfl⟩ | ⟨nb, nc, rfl⟩; (· exact Or.inl ⟨nb, ⟨_, _, v2.1⟩, v2.2⟩); (· exact Or.inr ⟨nb, nc, ⟨_, _, v2.1⟩, v2.2⟩))⟩
  have good : ∀ H : am_H, H = am_up h 43 (rO 0 wd s.1 s.2.2.1 s.2.2.2.2.1) → okV i → okV j → (s.2.1 j.toNat).1 ≠ 0 → am_W z 36 0 0 H [some (.ref 43), some (vI i), some (vI j)] [] := by
    intro H e oi oj nz
    have v2 := tv 0 H e
    have k2 := v2.1.1
    obtain ⟨I, hI⟩ : ∃ I, I = i.toNat := ⟨_, rfl⟩
    obtain ⟨J, hJ⟩ : ∃ J, J = j.toNat := ⟨_, rfl⟩
    have I1 : I < 150 := by have := oi.1; have := oi.2; omega
    have J1 : J < 150 := by have := oj.1; have := oj.2; omega
    have ei : i = (I : Int) := by have := oi.1; omega
    have ej : j = (J : Int) := by have := oj.1; omega
    have oI := ok.2.1 I I1
    have oJ := ok.2.1 J J1
    rw [← hI, ← hJ] at hT
    rw [← hJ] at nz
    have tp : 0 < (s.2.1 J).2.1 := Nat.pos_of_ne_zero (fun c => nz ((ok.2.1 J J1).2.1.mpr c))
    rw [ei, ej]
    rw [ei, ej] at hT
    refine am_aload0 hC dX5_over_36 ?_
    refine am_getf hC dX5_over_37 fX5_33 k2 rfl ?_
    refine am_if_le hC 45 dX5_over_40 rfl (by omega) (fun c40 => ?_) (fun c40 => ?_)
    · refine am_aload0 hC dX5_over_45 ?_
      refine am_iload1 hC dX5_over_46 ?_
      refine am_iload2 hC dX5_over_47 ?_
      refine am_iconst hC dX5_over_48 ?_
      refine am_V3_qN hC 5 dX5_over_49 kX5_94 (m_Mneed (more := 4) _ _ v2.1 I1 J1 (by decide) oI oJ) k2 rfl (Nat.le_of_ble_eq_true rfl) (by decide) (by omega) (by omega) (fun h3 r => ?_)
      obtain ⟨wd3, ⟨n1, n2, hw, b1, b2, q1, q2, q3, q4⟩, e3⟩ := r
      have v3 : eS h3 s 0 wd3 R := by rw [e3]; exact v2.1.o (by omega)
      have o3 : only h h3 K45 := v2.2.tr (by rw [e3]; exact only.o)
      have k3 := v3.1
      clear e3
      refine am_aload0 hC dX5_over_52 ?_
      refine am_iload1 hC dX5_over_53 ?_
      refine am_iconst hC dX5_over_54 ?_
      refine am_iconst hC dX5_over_55 ?_
      refine am_V3_qN hC 5 dX5_over_56 kX5_98 (m_Mtake (x := 0) (y := 1) _ _ v3 I1 oI (by decide) (by decide) (by decide)) k3 rfl (Nat.le_of_ble_eq_true rfl) (by decide) (by omega) (by omega) (fun h4 r => ?_)
      obtain ⟨R4, rfl, a4, b4, f4⟩ := r
      have v4 := v3.r (R' := R4)
      have k4 := v4.1
      refine am_aload0 hC dX5_over_59 ?_
      refine am_iload2 hC dX5_over_60 ?_
      refine am_iconst hC dX5_over_61 ?_
      refine am_iconst hC dX5_over_62 ?_
      refine am_V3_qN hC 5 dX5_over_63 kX5_98 (m_Mtake (x := 2) (y := 3) _ _ v4 J1 oJ (by decide) (by decide) (by decide)) k4 rfl (Nat.le_of_ble_eq_true rfl) (by decide) (by omega) (by omega) (fun h5 r => ?_)
      obtain ⟨R5, e5, c5, d5, f5⟩ := r
      rw [am_up_up] at e5
      subst e5
      have v5 := v3.r (R' := R5)
      have k5 := v5.1
      have a5 := a4.on f5 (by decide)
      have b5 := b4.on f5 (by decide)
      refine am_aload0 hC dX5_over_66 ?_
      refine am_iconst hC dX5_over_67 ?_
      refine am_iconst hC dX5_over_68 ?_
      refine am_iconst hC dX5_over_69 ?_
      refine am_V3_qN hC 5 dX5_over_70 kX5_101 (m_Mproduct (x := 0) (y := 3) (t := 4) _ _ v5.x (by decide) (by decide) (by decide) (by decide) (by decide) a5 d5 (fitM q1 q4 (by omega))) k5 rfl (Nat.le_of_ble_eq_true rfl) (by decide) (by omega) (by omega) (fun h6 r => ?_)
      obtain ⟨R6, e6, g6, f6⟩ := r
      rw [am_up_up] at e6
      subst e6
      have v6 := v3.r (R' := R6)
      have k6 := v6.1
      have b6 := b5.kept f6 (by decide)
      have d6 := c5.kept f6 (by decide)
      refine am_aload0 hC dX5_over_73 ?_
      refine am_iconst hC dX5_over_74 ?_
      refine am_iconst hC dX5_over_75 ?_
      refine am_iconst hC dX5_over_76 ?_
      refine am_V3_qN hC 5 dX5_over_77 kX5_101 (m_Mproduct (x := 1) (y := 2) (t := 5) _ _ v6.x (by decide) (by decide) (by decide) (by decide) (by decide) b6 d6 (fitM q2 q3 (by omega))) k6 rfl (Nat.le_of_ble_eq_true rfl) (by decide) (by omega) (by omega) (fun h7 r => ?_)
      obtain ⟨R7, e7, g7, f7⟩ := r
      rw [am_up_up] at e7
      subst e7
      have v7 := v3.r (R' := R7)
      have k7 := v7.1
      have g67 := g6.kept f7 (by decide)
      obtain ⟨⟨fs, s1, s2⟩, -, -⟩ := v7.2.2.2.1
      refine am_aload0 hC dX5_over_80 ?_
      refine am_aload0 hC dX5_over_81 ?_
      refine am_getf hC dX5_over_82 fX5_17 k7 rfl ?_
      refine am_iload1 hC dX5_over_85 ?_
      refine am_iald hC dX5_over_86 s1 (by omega) (by omega) ?_
      refine am_aload0 hC dX5_over_87 ?_
      refine am_getf hC dX5_over_88 fX5_17 k7 rfl ?_
      refine am_iload2 hC dX5_over_91 ?_
      refine am_iald hC dX5_over_92 s1 (by omega) (by omega) ?_
      refine am_imul hC dX5_over_93 ?_
      refine am_iconst hC dX5_over_94 ?_
      refine am_iconst hC dX5_over_95 ?_
      rw [Int.toNat_natCast, Int.toNat_natCast, s2 I I1, s2 J J1]
      refine am_V3_qI hC 5 dX5_over_96 kX5_87 (m_Mmake (x := 4) (y := 5) _ _ v7 ok.1 (by decide) (by decide) g67 g7 (fitM q1 q4 (by omega)) (fitM q2 q3 (by omega)) (Nat.mul_pos oI.2.2.1 tp)) k7 rfl (Nat.le_of_ble_eq_true rfl) (by decide) (by omega) (by omega) (fun v h8 r => ?_)
      obtain ⟨ev, ⟨R8, v8, -⟩, o8⟩ := r
      exact am_iret hC hT dX5_over_99 (by omega) (by omega) ⟨_, rfl, Or.inl ⟨⟨by rw [← ei]; exact oi, by rw [← ej]; exact oj⟩, nz, ev, ⟨_, _, v8⟩, o3.tr ((only.r (R := R)).tr o8)⟩⟩
    · exact absurd c40 (by decide)
  obtain ⟨⟨fs, s1, s2⟩, -, -⟩ := w.2.2.2.1
  refine am_aload0 hC dX5_over_0 ?_
  refine am_iload1 hC dX5_over_1 ?_
  refine am_S1_qI hC dX5_over_2 kX5_91 (m_MnoValue _ _ hi) (Nat.le_of_ble_eq_true rfl) (by decide) (by omega) (by omega) (fun v h1 q => ?_)
  obtain ⟨e, q⟩ := q
  rw [e]
  clear e
  have nq : v ≠ 0 → ¬ okV i := fun c => by rcases q with x | x; (· exact absurd x.1 c); (· exact x.2)
  have yq : v = 0 → okV i := fun c => by rcases q with x | x; (· exact x.2); (· omega)
  refine am_if_ne hC 15 dX5_over_5 rfl (by omega) (fun c5 => ?_) (fun c5 => ?_)
  · refine am_iconst hC dX5_over_15 ?_
    refine am_goto hC 33 dX5_over_16 rfl ?_
    refine am_putf hC dX5_over_33 pX5_33 (fun q => by cases q) h0 (am_fitI _) (Nat.le_of_ble_eq_true rfl) ?_
    rw [rO_set0]
    first
      | exact bad _ 1 (by omega) rfl (Or.inl ⟨fun c => nq (by omega) c.1, rfl⟩)
      | exact bad _ 1 (by omega) rfl (Or.inl ⟨fun c => nq' (by omega) c.2, rfl⟩)
      | exact bad _ 2 (by omega) rfl (Or.inr ⟨⟨yq (by omega), yq' (by omega)⟩, by omega, rfl⟩)
      | exact good _ rfl (yq (by omega)) (yq' (by omega)) (by omega)
  · refine am_iload2 hC dX5_over_8 ?_
    refine am_S1_qI hC dX5_over_9 kX5_91 (m_MnoValue _ _ hj) (Nat.le_of_ble_eq_true rfl) (by decide) (by omega) (by omega) (fun v' h1' q' => ?_)
    obtain ⟨e, q'⟩ := q'
    rw [e]
    clear e
    have nq' : v' ≠ 0 → ¬ okV j := fun c => by rcases q' with x | x; (· exact absurd x.1 c); (· exact x.2)
    have yq' : v' = 0 → okV j := fun c => by rcases q' with x | x; (· exact x.2); (· omega)
    refine am_if_eq hC 19 dX5_over_12 rfl (by omega) (fun c12 => ?_) (fun c12 => ?_)
    · refine am_aload0 hC dX5_over_19 ?_
      refine am_getf hC dX5_over_20 fX5_17 h0 rfl ?_
      refine am_iload2 hC dX5_over_23 ?_
      have oj := yq' (by omega)
      have oj1 := oj.1
      have oj2 := oj.2
      have js := (ok.2.1 j.toNat (by omega)).1
      refine am_iald hC dX5_over_24 s1 (by omega) (by omega) ?_
      rw [s2 _ (by omega)]
      refine am_if_ne hC 32 dX5_over_25 rfl (by omega) (fun c25 => ?_) (fun c25 => ?_)
      · refine am_iconst hC dX5_over_32 ?_
        refine am_putf hC dX5_over_33 pX5_33 (fun q => by cases q) h0 (am_fitI _) (Nat.le_of_ble_eq_true rfl) ?_
        rw [rO_set0]
        first
          | exact bad _ 1 (by omega) rfl (Or.inl ⟨fun c => nq (by omega) c.1, rfl⟩)
          | exact bad _ 1 (by omega) rfl (Or.inl ⟨fun c => nq' (by omega) c.2, rfl⟩)
          | exact bad _ 2 (by omega) rfl (Or.inr ⟨⟨yq (by omega), yq' (by omega)⟩, by omega, rfl⟩)
          | exact good _ rfl (yq (by omega)) (yq' (by omega)) (by omega)
      · refine am_iconst hC dX5_over_28 ?_
        refine am_goto hC 33 dX5_over_29 rfl ?_
        refine am_putf hC dX5_over_33 pX5_33 (fun q => by cases q) h0 (am_fitI _) (Nat.le_of_ble_eq_true rfl) ?_
        rw [rO_set0]
        first
          | exact bad _ 1 (by omega) rfl (Or.inl ⟨fun c => nq (by omega) c.1, rfl⟩)
          | exact bad _ 1 (by omega) rfl (Or.inl ⟨fun c => nq' (by omega) c.2, rfl⟩)
          | exact bad _ 2 (by omega) rfl (Or.inr ⟨⟨yq (by omega), yq' (by omega)⟩, by omega, rfl⟩)
          | exact good _ rfl (yq (by omega)) (yq' (by omega)) (by omega)
    · refine am_iconst hC dX5_over_15 ?_
      refine am_goto hC 33 dX5_over_16 rfl ?_
      refine am_putf hC dX5_over_33 pX5_33 (fun q => by cases q) h0 (am_fitI _) (Nat.le_of_ble_eq_true rfl) ?_
      rw [rO_set0]
      first
        | exact bad _ 1 (by omega) rfl (Or.inl ⟨fun c => nq (by omega) c.1, rfl⟩)
        | exact bad _ 1 (by omega) rfl (Or.inl ⟨fun c => nq' (by omega) c.2, rfl⟩)
        | exact bad _ 2 (by omega) rfl (Or.inr ⟨⟨yq (by omega), yq' (by omega)⟩, by omega, rfl⟩)
        | exact good _ rfl (yq (by omega)) (yq' (by omega)) (by omega)

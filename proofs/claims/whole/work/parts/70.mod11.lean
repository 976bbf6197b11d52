/-! the Model's times -/
theorem fitM {a b n1 n2 wd : Nat} (ha : a < 32768 ^ n1) (hb : b < 32768 ^ n2) (h : n1 + n2 ≤ wd) : a * b < 32768 ^ wd := by
  refine Nat.lt_of_lt_of_le ?_ (Nat.pow_le_pow_right (by decide) h)
  rw [Nat.pow_add]
  rcases Nat.eq_zero_or_pos b with c | c
  · subst c; rw [Nat.mul_zero]; exact Nat.mul_pos (Nat.pow_pos (by decide)) (Nat.pow_pos (by decide))
  · exact Nat.lt_of_lt_of_le (Nat.mul_lt_mul_of_pos_right ha c) (Nat.mul_le_mul_left _ (Nat.le_of_lt hb))
theorem m_Mtimes (l : Launch) (g : am_G) {h : am_H} {s : aS} {th i j : Int} {wd : Nat} {R : Nat → Int} (w : eS h s th wd R) (ok : aOK s) (hi : IR i) (hj : IR j) :
    am_Met l g yX5_times (am_W1 yX5_times cX5_times 3 (some .int)) 4 0 0 [.ref 43, vI i, vI j] h (qI fun v h1 => ((okV i ∧ okV j) ∧ v = (aTimes s i.toNat j.toNat).1 ∧ mOut h h1 0 (aTimes s i.toNat j.toNat).2) ∨ (¬ (okV i ∧ okV j) ∧ mOut h h1 1 s)) := by
  have h0 := w.1
  refine am_mk [some (.ref 43), some (vI i), some (vI j)] 0 rfl rfl (by decide +kernel) (fun z hl hg hC hT _ => ?_)
  have tv : ∀ (t : Int) (H : am_H), H = am_up h 43 (rO t wd s.1 s.2.2.1 s.2.2.2.2.1) → eS H s t wd R ∧ only h H K45 := fun t H et => by rw [et]; exact ⟨w.o w.2.2.1, only.o⟩
  have bad : ∀ H : am_H, H = am_up h 43 (rO 1 wd s.1 s.2.2.1 s.2.2.2.2.1) → ¬ (okV i ∧ okV j) → am_W z 23 0 0 H [some (.ref 43), some (vI i), some (vI j)] [] := by
    intro H e nb
    have v2 := tv 1 H e
    have k2 := v2.1.1
    refine am_aload0 hC dX5_times_23 ?_
    refine am_getf hC dX5_times_24 fX5_33 k2 rfl ?_
    refine am_if_le hC 32 dX5_times_27 rfl (by omega) (fun c27 => ?_) (fun c27 => ?_)
    · exact absurd c27 (by decide)
    · refine am_iconst hC dX5_times_30 ?_
      exact am_iret hC hT dX5_times_31 (by omega) (by omega) ⟨_, rfl, Or.inr ⟨nb, ⟨_, _, v2.1⟩, v2.2⟩⟩
  have good : ∀ H : am_H, H = am_up h 43 (rO 0 wd s.1 s.2.2.1 s.2.2.2.2.1) → okV i → okV j → am_W z 23 0 0 H [some (.ref 43), some (vI i), some (vI j)] [] := by
    intro H e oi oj
    have v2 := tv 0 H e
    have k2 := v2.1.1
    obtain ⟨I, hI⟩ : ∃ I, I = i.toNat := ⟨_, rfl⟩
    obtain ⟨J, hJ⟩ : ∃ J, J = j.toNat := ⟨_, rfl⟩
    have I1 : I < 150 := by have := oi.1; have := oi.2; omega
    have J1 : J < 150 := by have := oj.1; have := oj.2; omega
    have ei : i = (I : Int) := by have := oi.1; omega
    have ej : j = (J : Int) := by have := oj.1; omega
    have oI := ok.2.1 I I1
    have oJ := ok.2.1 J J1
    rw [← hI, ← hJ] at hT
    rw [ei, ej]
    rw [ei, ej] at hT
    refine am_aload0 hC dX5_times_23 ?_
    refine am_getf hC dX5_times_24 fX5_33 k2 rfl ?_
    refine am_if_le hC 32 dX5_times_27 rfl (by omega) (fun c27 => ?_) (fun c27 => ?_)
    · refine am_aload0 hC dX5_times_32 ?_
      refine am_iload1 hC dX5_times_33 ?_
      refine am_iload2 hC dX5_times_34 ?_
      refine am_iconst hC dX5_times_35 ?_
      refine am_V3_qN hC 5 dX5_times_36 kX5_94 (m_Mneed (more := 4) _ _ v2.1 I1 J1 (by decide) oI oJ) k2 rfl (Nat.le_of_ble_eq_true rfl) (by decide) (by omega) (by omega) (fun h3 r => ?_)
      obtain ⟨wd3, ⟨n1, n2, hw, b1, b2, q1, q2, q3, q4⟩, e3⟩ := r
      have v3 : eS h3 s 0 wd3 R := by rw [e3]; exact v2.1.o (by omega)
      have o3 : only h h3 K45 := v2.2.tr (by rw [e3]; exact only.o)
      have k3 := v3.1
      clear e3
      refine am_aload0 hC dX5_times_39 ?_
      refine am_iload1 hC dX5_times_40 ?_
      refine am_iconst hC dX5_times_41 ?_
      refine am_iconst hC dX5_times_42 ?_
      refine am_V3_qN hC 5 dX5_times_43 kX5_98 (m_Mtake (x := 0) (y := 1) _ _ v3 I1 oI (by decide) (by decide) (by decide)) k3 rfl (Nat.le_of_ble_eq_true rfl) (by decide) (by omega) (by omega) (fun h4 r => ?_)
      obtain ⟨R4, rfl, a4, b4, f4⟩ := r
      have v4 := v3.r (R' := R4)
      have k4 := v4.1
      refine am_aload0 hC dX5_times_46 ?_
      refine am_iload2 hC dX5_times_47 ?_
      refine am_iconst hC dX5_times_48 ?_
      refine am_iconst hC dX5_times_49 ?_
      refine am_V3_qN hC 5 dX5_times_50 kX5_98 (m_Mtake (x := 2) (y := 3) _ _ v4 J1 oJ (by decide) (by decide) (by decide)) k4 rfl (Nat.le_of_ble_eq_true rfl) (by decide) (by omega) (by omega) (fun h5 r => ?_)
      obtain ⟨R5, e5, c5, d5, f5⟩ := r
      rw [am_up_up] at e5
      subst e5
      have v5 := v3.r (R' := R5)
      have k5 := v5.1
      have a5 := a4.on f5 (by decide)
      have b5 := b4.on f5 (by decide)
      refine am_aload0 hC dX5_times_53 ?_
      refine am_iconst hC dX5_times_54 ?_
      refine am_iconst hC dX5_times_55 ?_
      refine am_iconst hC dX5_times_56 ?_
      refine am_V3_qN hC 5 dX5_times_57 kX5_101 (m_Mproduct (x := 0) (y := 2) (t := 4) _ _ v5.x (by decide) (by decide) (by decide) (by decide) (by decide) a5 c5 (fitM q1 q3 (by omega))) k5 rfl (Nat.le_of_ble_eq_true rfl) (by decide) (by omega) (by omega) (fun h6 r => ?_)
      obtain ⟨R6, e6, g6, f6⟩ := r
      rw [am_up_up] at e6
      subst e6
      have v6 := v3.r (R' := R6)
      have k6 := v6.1
      have b6 := b5.kept f6 (by decide)
      have d6 := d5.kept f6 (by decide)
      refine am_aload0 hC dX5_times_60 ?_
      refine am_iconst hC dX5_times_61 ?_
      refine am_iconst hC dX5_times_62 ?_
      refine am_iconst hC dX5_times_63 ?_
      refine am_V3_qN hC 5 dX5_times_64 kX5_101 (m_Mproduct (x := 1) (y := 3) (t := 5) _ _ v6.x (by decide) (by decide) (by decide) (by decide) (by decide) b6 d6 (fitM q2 q4 (by omega))) k6 rfl (Nat.le_of_ble_eq_true rfl) (by decide) (by omega) (by omega) (fun h7 r => ?_)
      obtain ⟨R7, e7, g7, f7⟩ := r
      rw [am_up_up] at e7
      subst e7
      have v7 := v3.r (R' := R7)
      have k7 := v7.1
      have g67 := g6.kept f7 (by decide)
      obtain ⟨⟨fs, s1, s2⟩, -, -⟩ := v7.2.2.2.1
      refine am_aload0 hC dX5_times_67 ?_
      refine am_aload0 hC dX5_times_68 ?_
      refine am_getf hC dX5_times_69 fX5_17 k7 rfl ?_
      refine am_iload1 hC dX5_times_72 ?_
      refine am_iald hC dX5_times_73 s1 (by omega) (by omega) ?_
      refine am_aload0 hC dX5_times_74 ?_
      refine am_getf hC dX5_times_75 fX5_17 k7 rfl ?_
      refine am_iload2 hC dX5_times_78 ?_
      refine am_iald hC dX5_times_79 s1 (by omega) (by omega) ?_
      refine am_imul hC dX5_times_80 ?_
      refine am_iconst hC dX5_times_81 ?_
      refine am_iconst hC dX5_times_82 ?_
      rw [Int.toNat_natCast, Int.toNat_natCast, s2 I I1, s2 J J1]
      refine am_V3_qI hC 5 dX5_times_83 kX5_87 (m_Mmake (x := 4) (y := 5) _ _ v7 ok.1 (by decide) (by decide) g67 g7 (fitM q1 q3 (by omega)) (fitM q2 q4 (by omega)) (Nat.mul_pos oI.2.2.1 oJ.2.2.1)) k7 rfl (Nat.le_of_ble_eq_true rfl) (by decide) (by omega) (by omega) (fun v h8 r => ?_)
      obtain ⟨ev, ⟨R8, v8, -⟩, o8⟩ := r
      exact am_iret hC hT dX5_times_86 (by omega) (by omega) ⟨_, rfl, Or.inl ⟨⟨by rw [← ei]; exact oi, by rw [← ej]; exact oj⟩, ev, ⟨_, _, v8⟩, o3.tr ((only.r (R := R)).tr o8)⟩⟩
    · exact absurd c27 (by decide)
  refine am_aload0 hC dX5_times_0 ?_
  refine am_iload1 hC dX5_times_1 ?_
  refine am_S1_qI hC dX5_times_2 kX5_91 (m_MnoValue _ _ hi) (Nat.le_of_ble_eq_true rfl) (by decide) (by omega) (by omega) (fun v h1 q => ?_)
  obtain ⟨e, q⟩ := q
  rw [e]
  clear e
  have nq : v ≠ 0 → ¬ okV i := fun c => by rcases q with x | x; (· exact absurd x.1 c); (· exact x.2)
  have yq : v = 0 → okV i := fun c => by rcases q with x | x; (· exact x.2); (· omega)
  refine am_if_ne hC 15 dX5_times_5 rfl (by omega) (fun c5 => ?_) (fun c5 => ?_)
  · refine am_iconst hC dX5_times_15 ?_
    refine am_goto hC 20 dX5_times_16 rfl ?_
    refine am_putf hC dX5_times_20 pX5_33 (fun q => by cases q) h0 (am_fitI _) (Nat.le_of_ble_eq_true rfl) ?_
    rw [rO_set0]
    first
      | exact bad _ rfl (fun c => nq (by omega) c.1)
      | exact bad _ rfl (fun c => nq' (by omega) c.2)
      | exact good _ rfl (yq (by omega)) (yq' (by omega))
  · refine am_iload2 hC dX5_times_8 ?_
    refine am_S1_qI hC dX5_times_9 kX5_91 (m_MnoValue _ _ hj) (Nat.le_of_ble_eq_true rfl) (by decide) (by omega) (by omega) (fun v' h1' q' => ?_)
    obtain ⟨e, q'⟩ := q'
    rw [e]
    clear e
    have nq' : v' ≠ 0 → ¬ okV j := fun c => by rcases q' with x | x; (· exact absurd x.1 c); (· exact x.2)
    have yq' : v' = 0 → okV j := fun c => by rcases q' with x | x; (· exact x.2); (· omega)
    refine am_if_eq hC 19 dX5_times_12 rfl (by omega) (fun c12 => ?_) (fun c12 => ?_)
    · refine am_iconst hC dX5_times_19 ?_
      refine am_putf hC dX5_times_20 pX5_33 (fun q => by cases q) h0 (am_fitI _) (Nat.le_of_ble_eq_true rfl) ?_
      rw [rO_set0]
      first
        | exact bad _ rfl (fun c => nq (by omega) c.1)
        | exact bad _ rfl (fun c => nq' (by omega) c.2)
        | exact good _ rfl (yq (by omega)) (yq' (by omega))
    · refine am_iconst hC dX5_times_15 ?_
      refine am_goto hC 20 dX5_times_16 rfl ?_
      refine am_putf hC dX5_times_20 pX5_33 (fun q => by cases q) h0 (am_fitI _) (Nat.le_of_ble_eq_true rfl) ?_
      rw [rO_set0]
      first
        | exact bad _ rfl (fun c => nq (by omega) c.1)
        | exact bad _ rfl (fun c => nq' (by omega) c.2)
        | exact good _ rfl (yq (by omega)) (yq' (by omega))

/-! the Model's bits, length, turn -/
theorem m_Mbits (l : Launch) (g : am_G) {h : am_H} {s : aS} {th i : Int} {wd : Nat} {R : Nat → Int} (w : eS h s th wd R) (ok : aOK s) (hi : IR i) :
    am_Met l g yX5_bits (am_W1 yX5_bits cX5_bits 2 (some .int)) 4 0 0 [.ref 43, vI i] h (qI fun v h1 => (okV i ∧ v = aBits s i.toNat ∧ mOut h h1 0 s) ∨ (¬ okV i ∧ mOut h h1 1 s)) := by
  have h0 := w.1
  refine am_mk [some (.ref 43), some (vI i)] 0 rfl rfl (by decide +kernel) (fun z hl hg hC hT _ => ?_)
  have tv : ∀ (t : Int) (H : am_H), H = am_up h 43 (rO t wd s.1 s.2.2.1 s.2.2.2.2.1) → eS H s t wd R ∧ only h H K45 := fun t H et => by rw [et]; exact ⟨w.o w.2.2.1, only.o⟩
  have bad : ∀ H : am_H, H = am_up h 43 (rO 1 wd s.1 s.2.2.1 s.2.2.2.2.1) → ¬ okV i → am_W z 16 0 0 H [some (.ref 43), some (vI i)] [] := by
    intro H e nb
    have v2 := tv 1 H e
    have k2 := v2.1.1
    refine am_aload0 hC dX5_bits_16 ?_
    refine am_getf hC dX5_bits_17 fX5_33 k2 rfl ?_
    refine am_if_le hC 25 dX5_bits_20 rfl (by omega) (fun c20 => ?_) (fun c20 => ?_)
    · exact absurd c20 (by decide)
    · refine am_iconst hC dX5_bits_23 ?_
      exact am_iret hC hT dX5_bits_24 (by omega) (by omega) ⟨_, rfl, Or.inr ⟨nb, ⟨_, _, v2.1⟩, v2.2⟩⟩
  have good : ∀ H : am_H, H = am_up h 43 (rO 0 wd s.1 s.2.2.1 s.2.2.2.2.1) → okV i → am_W z 16 0 0 H [some (.ref 43), some (vI i)] [] := by
    intro H e oi
    have v2 := tv 0 H e
    have k2 := v2.1.1
    obtain ⟨I, hI⟩ : ∃ I, I = i.toNat := ⟨_, rfl⟩
    have I1 : I < 150 := by have := oi.1; have := oi.2; omega
    have ei : i = (I : Int) := by have := oi.1; omega
    have oI := ok.2.1 I I1
    rw [← hI] at hT
    rw [ei]
    rw [ei] at hT oi
    have sg1 := oI.1
    refine am_aload0 hC dX5_bits_16 ?_
    refine am_getf hC dX5_bits_17 fX5_33 k2 rfl ?_
    refine am_if_le hC 25 dX5_bits_20 rfl (by omega) (fun c20 => ?_) (fun c20 => ?_)
    · refine am_aload0 hC dX5_bits_25 ?_
      refine am_iload1 hC dX5_bits_26 ?_
      refine am_iload1 hC dX5_bits_27 ?_
      refine am_iconst hC dX5_bits_28 ?_
      refine am_V3_qN hC 5 dX5_bits_29 kX5_94 (m_Mneed (more := 4) _ _ v2.1 I1 I1 (by decide) oI oI) k2 rfl (Nat.le_of_ble_eq_true rfl) (by decide) (by omega) (by omega) (fun h3 r => ?_)
      obtain ⟨wd3, ⟨n1, n2, hw, b1, b2, q1, q2, q3, q4⟩, e3⟩ := r
      have v3 : eS h3 s 0 wd3 R := by rw [e3]; exact v2.1.o (by omega)
      have o3 : only h h3 K45 := v2.2.tr (by rw [e3]; exact only.o)
      have k3 := v3.1
      clear e3
      refine am_aload0 hC dX5_bits_32 ?_
      refine am_iload1 hC dX5_bits_33 ?_
      refine am_iconst hC dX5_bits_34 ?_
      refine am_iconst hC dX5_bits_35 ?_
      refine am_V3_qN hC 5 dX5_bits_36 kX5_98 (m_Mtake (x := 0) (y := 1) _ _ v3 I1 oI (by decide) (by decide) (by decide)) k3 rfl (Nat.le_of_ble_eq_true rfl) (by decide) (by omega) (by omega) (fun h4 r => ?_)
      obtain ⟨R4, rfl, a4, b4, f4⟩ := r
      have v4 := v3.r (R' := R4)
      have k4 := v4.1
      obtain ⟨⟨fs, s1, s2⟩, -, -⟩ := v4.2.2.2.1
      have lw : 32768 ^ n1 ≤ 32768 ^ wd3 := Nat.pow_le_pow_right (by decide) (by omega)
      refine am_aload0 hC dX5_bits_39 ?_
      refine am_getf hC dX5_bits_40 fX5_17 k4 rfl ?_
      refine am_iload1 hC dX5_bits_43 ?_
      refine am_iald hC dX5_bits_44 s1 (by omega) (by omega) ?_
      rw [Int.toNat_natCast, s2 I I1]
      refine am_if_ne hC 52 dX5_bits_45 rfl (by omega) (fun c45 => ?_) (fun c45 => ?_)
      rotate_left
      · refine am_iconst hC dX5_bits_48 ?_
        refine am_goto hC 63 dX5_bits_49 rfl ?_
        exact am_iret hC hT dX5_bits_63 (by omega) (by omega) ⟨_, rfl, Or.inl ⟨oi, by rw [aBits, if_pos (by omega)], ⟨_, _, v4⟩, o3.tr (only.r (R := R))⟩⟩
      refine am_aload0 hC dX5_bits_52 ?_
      refine am_iconst hC dX5_bits_53 ?_
      refine am_V1_pI hC 5 dX5_bits_54 kX5_42 (m_Msize (x := 0) _ _ v4.x (by decide) a4 (by omega)) k4 rfl (Nat.le_of_ble_eq_true rfl) (by decide) (by omega) (by omega) ?_
      refine am_aload0 hC dX5_bits_57 ?_
      refine am_iconst hC dX5_bits_58 ?_
      refine am_V1_pI hC 5 dX5_bits_59 kX5_42 (m_Msize (x := 1) _ _ v4.x (by decide) b4 (by omega)) k4 rfl (Nat.le_of_ble_eq_true rfl) (by decide) (by omega) (by omega) ?_
      refine am_iadd hC dX5_bits_62 ?_
      exact am_iret hC hT dX5_bits_63 (by omega) (by omega) ⟨_, rfl, Or.inl ⟨oi, by rw [aBits, if_neg (by omega)], ⟨_, _, v4⟩, o3.tr (only.r (R := R))⟩⟩
      skip
    · exact absurd c20 (by decide)
  refine am_aload0 hC dX5_bits_0 ?_
  refine am_iload1 hC dX5_bits_1 ?_
  refine am_S1_qI hC dX5_bits_2 kX5_91 (m_MnoValue _ _ hi) (Nat.le_of_ble_eq_true rfl) (by decide) (by omega) (by omega) (fun v h1 q => ?_)
  obtain ⟨e, q⟩ := q
  rw [e]
  clear e
  have nq : v ≠ 0 → ¬ okV i := fun c => by rcases q with x | x; (· exact absurd x.1 c); (· exact x.2)
  have yq : v = 0 → okV i := fun c => by rcases q with x | x; (· exact x.2); (· omega)
  refine am_if_eq hC 12 dX5_bits_5 rfl (by omega) (fun c5 => ?_) (fun c5 => ?_)
  · refine am_iconst hC dX5_bits_12 ?_
    refine am_putf hC dX5_bits_13 pX5_33 (fun q => by cases q) h0 (am_fitI _) (Nat.le_of_ble_eq_true rfl) ?_
    rw [rO_set0]
    first
      | exact bad _ rfl (nq (by omega))
      | exact good _ rfl (yq (by omega))
  · refine am_iconst hC dX5_bits_8 ?_
    refine am_goto hC 13 dX5_bits_9 rfl ?_
    refine am_putf hC dX5_bits_13 pX5_33 (fun q => by cases q) h0 (am_fitI _) (Nat.le_of_ble_eq_true rfl) ?_
    rw [rO_set0]
    first
      | exact bad _ rfl (nq (by omega))
      | exact good _ rfl (yq (by omega))
theorem m_Mlength (l : Launch) (g : am_G) {h : am_H} {k : Int} (hk : okU k) :
    am_Met l g yX5_length (am_W1 yX5_length cX5_length 1 (some .long)) 1 0 0 [vI k] h (pL (am_tab k.toNat) h) := by
  have k1 := hk.1
  have k2 := hk.2
  refine am_mk [some (vI k)] 0 rfl rfl (by decide +kernel) (fun z hl hg hC hT _ => ?_)
  refine am_iload0 hC dX5_length_0 ?_
  refine am_if_ne hC 10 dX5_length_1 rfl (by omega) (fun c1 => ?_) (fun c1 => ?_)
  · refine am_iload0 hC dX5_length_10 ?_
    refine am_iconst hC dX5_length_11 ?_
    refine am_icmp_ne hC 21 dX5_length_12 rfl (by omega) (by omega) (fun c12 => ?_) (fun c12 => ?_)
    · refine am_iload0 hC dX5_length_21 ?_
      refine am_iconst hC dX5_length_22 ?_
      refine am_icmp_ne hC 32 dX5_length_23 rfl (by omega) (by omega) (fun c23 => ?_) (fun c23 => ?_)
      · refine am_iload0 hC dX5_length_32 ?_
        refine am_iconst hC dX5_length_33 ?_
        refine am_icmp_ne hC 43 dX5_length_34 rfl (by omega) (by omega) (fun c34 => ?_) (fun c34 => ?_)
        · refine am_iload0 hC dX5_length_43 ?_
          refine am_iconst hC dX5_length_44 ?_
          refine am_icmp_ne hC 54 dX5_length_45 rfl (by omega) (by omega) (fun c45 => ?_) (fun c45 => ?_)
          · refine am_ldc2 hC (635) dX5_length_54 cX5_123 rfl ?_
            first
              | exact am_lret hC hT dX5_length_57 (by omega) (by omega) ⟨sL (by rw [show k = 0 by omega]; rfl), rfl⟩
              | exact am_lret hC hT dX5_length_57 (by omega) (by omega) ⟨sL (by rw [show k = 1 by omega]; rfl), rfl⟩
              | exact am_lret hC hT dX5_length_57 (by omega) (by omega) ⟨sL (by rw [show k = 2 by omega]; rfl), rfl⟩
              | exact am_lret hC hT dX5_length_57 (by omega) (by omega) ⟨sL (by rw [show k = 3 by omega]; rfl), rfl⟩
              | exact am_lret hC hT dX5_length_57 (by omega) (by omega) ⟨sL (by rw [show k = 4 by omega]; rfl), rfl⟩
              | exact am_lret hC hT dX5_length_57 (by omega) (by omega) ⟨sL (by rw [show k = 5 by omega]; rfl), rfl⟩
          · refine am_ldc2 hC (91440) dX5_length_48 cX5_121 rfl ?_
            refine am_goto hC 57 dX5_length_51 rfl ?_
            first
              | exact am_lret hC hT dX5_length_57 (by omega) (by omega) ⟨sL (by rw [show k = 0 by omega]; rfl), rfl⟩
              | exact am_lret hC hT dX5_length_57 (by omega) (by omega) ⟨sL (by rw [show k = 1 by omega]; rfl), rfl⟩
              | exact am_lret hC hT dX5_length_57 (by omega) (by omega) ⟨sL (by rw [show k = 2 by omega]; rfl), rfl⟩
              | exact am_lret hC hT dX5_length_57 (by omega) (by omega) ⟨sL (by rw [show k = 3 by omega]; rfl), rfl⟩
              | exact am_lret hC hT dX5_length_57 (by omega) (by omega) ⟨sL (by rw [show k = 4 by omega]; rfl), rfl⟩
              | exact am_lret hC hT dX5_length_57 (by omega) (by omega) ⟨sL (by rw [show k = 5 by omega]; rfl), rfl⟩
        · refine am_ldc2 hC (7620) dX5_length_37 cX5_119 rfl ?_
          refine am_goto hC 57 dX5_length_40 rfl ?_
          first
            | exact am_lret hC hT dX5_length_57 (by omega) (by omega) ⟨sL (by rw [show k = 0 by omega]; rfl), rfl⟩
            | exact am_lret hC hT dX5_length_57 (by omega) (by omega) ⟨sL (by rw [show k = 1 by omega]; rfl), rfl⟩
            | exact am_lret hC hT dX5_length_57 (by omega) (by omega) ⟨sL (by rw [show k = 2 by omega]; rfl), rfl⟩
            | exact am_lret hC hT dX5_length_57 (by omega) (by omega) ⟨sL (by rw [show k = 3 by omega]; rfl), rfl⟩
            | exact am_lret hC hT dX5_length_57 (by omega) (by omega) ⟨sL (by rw [show k = 4 by omega]; rfl), rfl⟩
            | exact am_lret hC hT dX5_length_57 (by omega) (by omega) ⟨sL (by rw [show k = 5 by omega]; rfl), rfl⟩
      · refine am_ldc2 hC (300000) dX5_length_26 cX5_117 rfl ?_
        refine am_goto hC 57 dX5_length_29 rfl ?_
        first
          | exact am_lret hC hT dX5_length_57 (by omega) (by omega) ⟨sL (by rw [show k = 0 by omega]; rfl), rfl⟩
          | exact am_lret hC hT dX5_length_57 (by omega) (by omega) ⟨sL (by rw [show k = 1 by omega]; rfl), rfl⟩
          | exact am_lret hC hT dX5_length_57 (by omega) (by omega) ⟨sL (by rw [show k = 2 by omega]; rfl), rfl⟩
          | exact am_lret hC hT dX5_length_57 (by omega) (by omega) ⟨sL (by rw [show k = 3 by omega]; rfl), rfl⟩
          | exact am_lret hC hT dX5_length_57 (by omega) (by omega) ⟨sL (by rw [show k = 4 by omega]; rfl), rfl⟩
          | exact am_lret hC hT dX5_length_57 (by omega) (by omega) ⟨sL (by rw [show k = 5 by omega]; rfl), rfl⟩
    · refine am_ldc2 hC (300) dX5_length_15 cX5_115 rfl ?_
      refine am_goto hC 57 dX5_length_18 rfl ?_
      first
        | exact am_lret hC hT dX5_length_57 (by omega) (by omega) ⟨sL (by rw [show k = 0 by omega]; rfl), rfl⟩
        | exact am_lret hC hT dX5_length_57 (by omega) (by omega) ⟨sL (by rw [show k = 1 by omega]; rfl), rfl⟩
        | exact am_lret hC hT dX5_length_57 (by omega) (by omega) ⟨sL (by rw [show k = 2 by omega]; rfl), rfl⟩
        | exact am_lret hC hT dX5_length_57 (by omega) (by omega) ⟨sL (by rw [show k = 3 by omega]; rfl), rfl⟩
        | exact am_lret hC hT dX5_length_57 (by omega) (by omega) ⟨sL (by rw [show k = 4 by omega]; rfl), rfl⟩
        | exact am_lret hC hT dX5_length_57 (by omega) (by omega) ⟨sL (by rw [show k = 5 by omega]; rfl), rfl⟩
  · refine am_ldc2 hC (3) dX5_length_4 cX5_113 rfl ?_
    refine am_goto hC 57 dX5_length_7 rfl ?_
    first
      | exact am_lret hC hT dX5_length_57 (by omega) (by omega) ⟨sL (by rw [show k = 0 by omega]; rfl), rfl⟩
      | exact am_lret hC hT dX5_length_57 (by omega) (by omega) ⟨sL (by rw [show k = 1 by omega]; rfl), rfl⟩
      | exact am_lret hC hT dX5_length_57 (by omega) (by omega) ⟨sL (by rw [show k = 2 by omega]; rfl), rfl⟩
      | exact am_lret hC hT dX5_length_57 (by omega) (by omega) ⟨sL (by rw [show k = 3 by omega]; rfl), rfl⟩
      | exact am_lret hC hT dX5_length_57 (by omega) (by omega) ⟨sL (by rw [show k = 4 by omega]; rfl), rfl⟩
      | exact am_lret hC hT dX5_length_57 (by omega) (by omega) ⟨sL (by rw [show k = 5 by omega]; rfl), rfl⟩

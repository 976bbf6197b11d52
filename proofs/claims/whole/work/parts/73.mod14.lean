/-! the Model's value -/
theorem m_Mvalue (l : Launch) (g : am_G) {h : am_H} {s : aS} {th a b : Int} {wd : Nat} {R : Nat → Int} (w : eS h s th wd R) (ok : aOK s) (ha : -9223372036854775808 ≤ a ∧ a ≤ 9223372036854775807) (hb : -9223372036854775808 ≤ b ∧ b ≤ 9223372036854775807) :
    am_Met l g yX5_value (am_W1 yX5_value cX5_value 5 (some .int)) 4 0 0 [.ref 43, vL a, vL b] h (qI fun v h1 => (b ≠ 0 ∧ v = (aValue s a b).1 ∧ mOut h h1 0 (aValue s a b).2) ∨ (b = 0 ∧ mOut h h1 1 s)) := by
  have h0 := w.1
  refine am_mk [some (.ref 43), some (vL a), none, some (vL b), none] 0 rfl rfl (by decide +kernel) (fun z hl hg hC hT _ => ?_)
  have tv : ∀ (t : Int) (H : am_H), H = am_up h 43 (rO t wd s.1 s.2.2.1 s.2.2.2.2.1) → eS H s t wd R ∧ only h H K45 := fun t H et => by rw [et]; exact ⟨w.o w.2.2.1, only.o⟩
  have l24 : ∀ v : Int, v.natAbs ≤ 9223372036854775808 → v.natAbs < 32768 ^ 24 := fun v hv => Nat.lt_of_le_of_lt hv (by decide +kernel)
  have ma : (a.natAbs : Int) = a ∨ (a.natAbs : Int) = -a := by omega
  by_cases b0 : b = 0
  · refine am_aload0 hC dX5_value_0 ?_
    refine am_lload3 hC dX5_value_1 ?_
    refine am_lconst0 hC dX5_value_2 ?_
    refine am_lif_ne hC 11 dX5_value_3 dX5_value_4 rfl (by omega) (by omega) (fun c4 => ?_) (fun c4 => ?_)
    · exact absurd c4 (by omega)
    · refine am_iconst hC dX5_value_7 ?_
      refine am_goto hC 12 dX5_value_8 rfl ?_
      refine am_putf hC dX5_value_12 pX5_33 (fun q => by cases q) h0 (am_fitI _) (Nat.le_of_ble_eq_true rfl) ?_
      rw [rO_set0]
      refine am_heap (fun H2 e2 => ?_)
      have v2 := tv 1 H2 e2
      have k2 := v2.1.1
      clear e2
      refine am_aload0 hC dX5_value_15 ?_
      refine am_getf hC dX5_value_16 fX5_33 k2 rfl ?_
      refine am_if_le hC 24 dX5_value_19 rfl (by omega) (fun c19 => ?_) (fun c19 => ?_)
      · exact absurd c19 (by omega)
      · refine am_iconst hC dX5_value_22 ?_
        exact am_iret hC hT dX5_value_23 (by omega) (by omega) ⟨_, rfl, Or.inr ⟨b0, ⟨_, _, v2.1⟩, v2.2⟩⟩
  · refine am_aload0 hC dX5_value_0 ?_
    refine am_lload3 hC dX5_value_1 ?_
    refine am_lconst0 hC dX5_value_2 ?_
    refine am_lif_ne hC 11 dX5_value_3 dX5_value_4 rfl (by omega) (by omega) (fun c4 => ?_) (fun c4 => ?_)
    · refine am_iconst hC dX5_value_11 ?_
      refine am_putf hC dX5_value_12 pX5_33 (fun q => by cases q) h0 (am_fitI _) (Nat.le_of_ble_eq_true rfl) ?_
      rw [rO_set0]
      refine am_heap (fun H2 e2 => ?_)
      have v2 := tv 0 H2 e2
      have k2 := v2.1.1
      clear e2
      refine am_aload0 hC dX5_value_15 ?_
      refine am_getf hC dX5_value_16 fX5_33 k2 rfl ?_
      refine am_if_le hC 24 dX5_value_19 rfl (by omega) (fun c19 => ?_) (fun c19 => ?_)
      · refine am_aload0 hC dX5_value_24 ?_
        refine am_bipush hC dX5_value_25 rfl ?_
        refine am_putf hC dX5_value_27 pX5_9 (fun q => by cases q) k2 (am_fitI _) (Nat.le_of_ble_eq_true rfl) ?_
        rw [rO_set1]
        refine am_heap (fun H3 e3 => ?_)
        have v3 : eS H3 s 0 24 R := by rw [e3]; exact v2.1.o (wd' := 24) (by decide)
        have o3 : only h H3 K45 := v2.2.tr (by rw [e3]; exact only.o)
        have k3 := v3.1
        clear e3
        refine am_aload0 hC dX5_value_30 ?_
        refine am_iconst hC dX5_value_31 ?_
        refine am_lload1 hC dX5_value_32 ?_
        refine am_lconst0 hC dX5_value_33 ?_
        refine am_lif_ge hC 43 dX5_value_34 dX5_value_35 rfl (by omega) (by omega) (fun c35 => ?_) (fun c35 => ?_)
        · refine am_lload1 hC dX5_value_43 ?_
          refine am_V2_qN hC 5 dX5_value_44 kX5_36 (m_Mset (x := 0) _ _ v3.x (by decide)) k3 rfl (Nat.le_of_ble_eq_true rfl) (by decide) (by omega) (by omega) (fun h4 r => ?_)
          obtain ⟨R4, rfl, a4, f4⟩ := r
          have a4' : rg R4 0 a.natAbs := by
            first
            | (rw [show (-a % 18446744073709551616).toNat = a.natAbs by omega] at a4; exact a4)
            | (rw [show (a % 18446744073709551616).toNat = a.natAbs by omega] at a4; exact a4)
          have v4 := v3.r (R' := R4)
          have k4 := v4.1
          refine am_aload0 hC dX5_value_47 ?_
          refine am_iconst hC dX5_value_48 ?_
          refine am_lload3 hC dX5_value_49 ?_
          refine am_lconst0 hC dX5_value_50 ?_
          refine am_lif_ge hC 60 dX5_value_51 dX5_value_52 rfl (by omega) (by omega) (fun c52 => ?_) (fun c52 => ?_)
          · refine am_lload3 hC dX5_value_60 ?_
            refine am_V2_qN hC 5 dX5_value_61 kX5_36 (m_Mset (x := 1) _ _ v4.x (by decide)) k4 rfl (Nat.le_of_ble_eq_true rfl) (by decide) (by omega) (by omega) (fun h5 r => ?_)
            obtain ⟨R5, e5, b5, f5⟩ := r
            rw [am_up_up] at e5
            subst e5
            have b5' : rg R5 1 b.natAbs := by
              first
              | (rw [show (-b % 18446744073709551616).toNat = b.natAbs by omega] at b5; exact b5)
              | (rw [show (b % 18446744073709551616).toNat = b.natAbs by omega] at b5; exact b5)
            have v5 := v3.r (R' := R5)
            have k5 := v5.1
            have a5 := a4'.kept f5 (by decide)
            refine am_aload0 hC dX5_value_64 ?_
            refine am_lload1 hC dX5_value_65 ?_
            refine am_lconst0 hC dX5_value_66 ?_
            refine am_lif_ge hC 75 dX5_value_67 dX5_value_68 rfl (by omega) (by omega) (fun c68 => ?_) (fun c68 => ?_)
            · refine am_iconst hC dX5_value_75 ?_
              refine am_lload3 hC dX5_value_76 ?_
              refine am_lconst0 hC dX5_value_77 ?_
              refine am_lif_ge hC 86 dX5_value_78 dX5_value_79 rfl (by omega) (by omega) (fun c79 => ?_) (fun c79 => ?_)
              · refine am_iconst hC dX5_value_86 ?_
                refine am_icmp_ne hC 94 dX5_value_87 rfl (by omega) (by omega) (fun c87 => ?_) (fun c87 => ?_)
                · refine am_iconst hC dX5_value_94 ?_
                  refine am_iconst hC dX5_value_95 ?_
                  refine am_iconst hC dX5_value_96 ?_
                  refine am_V3_qI hC 5 dX5_value_97 kX5_87 (m_Mmake (x := 0) (y := 1) _ _ v5 ok.1 (by decide) (by decide) a5 b5' (l24 a (by omega)) (l24 b (by omega)) (by omega)) k5 rfl (Nat.le_of_ble_eq_true rfl) (by decide) (by omega) (by omega) (fun v h8 r => ?_)
                  obtain ⟨ev, ⟨R8, v8, -⟩, o8⟩ := r
                  first
                    | exact am_iret hC hT dX5_value_100 (by omega) (by omega) ⟨_, rfl, Or.inl ⟨b0, by rw [aValue, if_pos (by simp; omega)]; exact ev, ⟨_, _, by rw [aValue, if_pos (by simp; omega)]; exact v8⟩, o3.tr ((only.r (R := R)).tr o8)⟩⟩
                    | exact am_iret hC hT dX5_value_100 (by omega) (by omega) ⟨_, rfl, Or.inl ⟨b0, by rw [aValue, if_neg (by simp; omega)]; exact ev, ⟨_, _, by rw [aValue, if_neg (by simp; omega)]; exact v8⟩, o3.tr ((only.r (R := R)).tr o8)⟩⟩
                · refine am_iconst hC dX5_value_90 ?_
                  refine am_goto hC 95 dX5_value_91 rfl ?_
                  refine am_iconst hC dX5_value_95 ?_
                  refine am_iconst hC dX5_value_96 ?_
                  refine am_V3_qI hC 5 dX5_value_97 kX5_87 (m_Mmake (x := 0) (y := 1) _ _ v5 ok.1 (by decide) (by decide) a5 b5' (l24 a (by omega)) (l24 b (by omega)) (by omega)) k5 rfl (Nat.le_of_ble_eq_true rfl) (by decide) (by omega) (by omega) (fun v h8 r => ?_)
                  obtain ⟨ev, ⟨R8, v8, -⟩, o8⟩ := r
                  first
                    | exact am_iret hC hT dX5_value_100 (by omega) (by omega) ⟨_, rfl, Or.inl ⟨b0, by rw [aValue, if_pos (by simp; omega)]; exact ev, ⟨_, _, by rw [aValue, if_pos (by simp; omega)]; exact v8⟩, o3.tr ((only.r (R := R)).tr o8)⟩⟩
                    | exact am_iret hC hT dX5_value_100 (by omega) (by omega) ⟨_, rfl, Or.inl ⟨b0, by rw [aValue, if_neg (by simp; omega)]; exact ev, ⟨_, _, by rw [aValue, if_neg (by simp; omega)]; exact v8⟩, o3.tr ((only.r (R := R)).tr o8)⟩⟩
              · refine am_iconst hC dX5_value_82 ?_
                refine am_goto hC 87 dX5_value_83 rfl ?_
                refine am_icmp_ne hC 94 dX5_value_87 rfl (by omega) (by omega) (fun c87 => ?_) (fun c87 => ?_)
                · refine am_iconst hC dX5_value_94 ?_
                  refine am_iconst hC dX5_value_95 ?_
                  refine am_iconst hC dX5_value_96 ?_
                  refine am_V3_qI hC 5 dX5_value_97 kX5_87 (m_Mmake (x := 0) (y := 1) _ _ v5 ok.1 (by decide) (by decide) a5 b5' (l24 a (by omega)) (l24 b (by omega)) (by omega)) k5 rfl (Nat.le_of_ble_eq_true rfl) (by decide) (by omega) (by omega) (fun v h8 r => ?_)
                  obtain ⟨ev, ⟨R8, v8, -⟩, o8⟩ := r
                  first
                    | exact am_iret hC hT dX5_value_100 (by omega) (by omega) ⟨_, rfl, Or.inl ⟨b0, by rw [aValue, if_pos (by simp; omega)]; exact ev, ⟨_, _, by rw [aValue, if_pos (by simp; omega)]; exact v8⟩, o3.tr ((only.r (R := R)).tr o8)⟩⟩
                    | exact am_iret hC hT dX5_value_100 (by omega) (by omega) ⟨_, rfl, Or.inl ⟨b0, by rw [aValue, if_neg (by simp; omega)]; exact ev, ⟨_, _, by rw [aValue, if_neg (by simp; omega)]; exact v8⟩, o3.tr ((only.r (R := R)).tr o8)⟩⟩
                · refine am_iconst hC dX5_value_90 ?_
                  refine am_goto hC 95 dX5_value_91 rfl ?_
                  refine am_iconst hC dX5_value_95 ?_
                  refine am_iconst hC dX5_value_96 ?_
                  refine am_V3_qI hC 5 dX5_value_97 kX5_87 (m_Mmake (x := 0) (y := 1) _ _ v5 ok.1 (by decide) (by decide) a5 b5' (l24 a (by omega)) (l24 b (by omega)) (by omega)) k5 rfl (Nat.le_of_ble_eq_true rfl) (by decide) (by omega) (by omega) (fun v h8 r => ?_)
                  obtain ⟨ev, ⟨R8, v8, -⟩, o8⟩ := r
                  first
                    | exact am_iret hC hT dX5_value_100 (by omega) (by omega) ⟨_, rfl, Or.inl ⟨b0, by rw [aValue, if_pos (by simp; omega)]; exact ev, ⟨_, _, by rw [aValue, if_pos (by simp; omega)]; exact v8⟩, o3.tr ((only.r (R := R)).tr o8)⟩⟩
                    | exact am_iret hC hT dX5_value_100 (by omega) (by omega) ⟨_, rfl, Or.inl ⟨b0, by rw [aValue, if_neg (by simp; omega)]; exact ev, ⟨_, _, by rw [aValue, if_neg (by simp; omega)]; exact v8⟩, o3.tr ((only.r (R := R)).tr o8)⟩⟩
            · refine am_iconst hC dX5_value_71 ?_
              refine am_goto hC 76 dX5_value_72 rfl ?_
              refine am_lload3 hC dX5_value_76 ?_
              refine am_lconst0 hC dX5_value_77 ?_
              refine am_lif_ge hC 86 dX5_value_78 dX5_value_79 rfl (by omega) (by omega) (fun c79 => ?_) (fun c79 => ?_)
              · refine am_iconst hC dX5_value_86 ?_
                refine am_icmp_ne hC 94 dX5_value_87 rfl (by omega) (by omega) (fun c87 => ?_) (fun c87 => ?_)
                · refine am_iconst hC dX5_value_94 ?_
                  refine am_iconst hC dX5_value_95 ?_
                  refine am_iconst hC dX5_value_96 ?_
                  refine am_V3_qI hC 5 dX5_value_97 kX5_87 (m_Mmake (x := 0) (y := 1) _ _ v5 ok.1 (by decide) (by decide) a5 b5' (l24 a (by omega)) (l24 b (by omega)) (by omega)) k5 rfl (Nat.le_of_ble_eq_true rfl) (by decide) (by omega) (by omega) (fun v h8 r => ?_)
                  obtain ⟨ev, ⟨R8, v8, -⟩, o8⟩ := r
                  first
                    | exact am_iret hC hT dX5_value_100 (by omega) (by omega) ⟨_, rfl, Or.inl ⟨b0, by rw [aValue, if_pos (by simp; omega)]; exact ev, ⟨_, _, by rw [aValue, if_pos (by simp; omega)]; exact v8⟩, o3.tr ((only.r (R := R)).tr o8)⟩⟩
                    | exact am_iret hC hT dX5_value_100 (by omega) (by omega) ⟨_, rfl, Or.inl ⟨b0, by rw [aValue, if_neg (by simp; omega)]; exact ev, ⟨_, _, by rw [aValue, if_neg (by simp; omega)]; exact v8⟩, o3.tr ((only.r (R := R)).tr o8)⟩⟩
                · refine am_iconst hC dX5_value_90 ?_
                  refine am_goto hC 95 dX5_value_91 rfl ?_
                  refine am_iconst hC dX5_value_95 ?_
                  refine am_iconst hC dX5_value_96 ?_
                  refine am_V3_qI hC 5 dX5_value_97 kX5_87 (m_Mmake (x := 0) (y := 1) _ _ v5 ok.1 (by decide) (by decide) a5 b5' (l24 a (by omega)) (l24 b (by omega)) (by omega)) k5 rfl (Nat.le_of_ble_eq_true rfl) (by decide) (by omega) (by omega) (fun v h8 r => ?_)
                  obtain ⟨ev, ⟨R8, v8, -⟩, o8⟩ := r
                  first
                    | exact am_iret hC hT dX5_value_100 (by omega) (by omega) ⟨_, rfl, Or.inl ⟨b0, by rw [aValue, if_pos (by simp; omega)]; exact ev, ⟨_, _, by rw [aValue, if_pos (by simp; omega)]; exact v8⟩, o3.tr ((only.r (R := R)).tr o8)⟩⟩
                    | exact am_iret hC hT dX5_value_100 (by omega) (by omega) ⟨_, rfl, Or.inl ⟨b0, by rw [aValue, if_neg (by simp; omega)]; exact ev, ⟨_, _, by rw [aValue, if_neg (by simp; omega)]; exact v8⟩, o3.tr ((only.r (R := R)).tr o8)⟩⟩
              · refine am_iconst hC dX5_value_82 ?_
                refine am_goto hC 87 dX5_value_83 rfl ?_
                refine am_icmp_ne hC 94 dX5_value_87 rfl (by omega) (by omega) (fun c87 => ?_) (fun c87 => ?_)
                · refine am_iconst hC dX5_value_94 ?_
                  refine am_iconst hC dX5_value_95 ?_
                  refine am_iconst hC dX5_value_96 ?_
                  refine am_V3_qI hC 5 dX5_value_97 kX5_87 (m_Mmake (x := 0) (y := 1) _ _ v5 ok.1 (by decide) (by decide) a5 b5' (l24 a (by omega)) (l24 b (by omega)) (by omega)) k5 rfl (Nat.le_of_ble_eq_true rfl) (by decide) (by omega) (by omega) (fun v h8 r => ?_)
                  obtain ⟨ev, ⟨R8, v8, -⟩, o8⟩ := r
                  first
                    | exact am_iret hC hT dX5_value_100 (by omega) (by omega) ⟨_, rfl, Or.inl ⟨b0, by rw [aValue, if_pos (by simp; omega)]; exact ev, ⟨_, _, by rw [aValue, if_pos (by simp; omega)]; exact v8⟩, o3.tr ((only.r (R := R)).tr o8)⟩⟩
                    | exact am_iret hC hT dX5_value_100 (by omega) (by omega) ⟨_, rfl, Or.inl ⟨b0, by rw [aValue, if_neg (by simp; omega)]; exact ev, ⟨_, _, by rw [aValue, if_neg (by simp; omega)]; exact v8⟩, o3.tr ((only.r (R := R)).tr o8)⟩⟩
                · refine am_iconst hC dX5_value_90 ?_
                  refine am_goto hC 95 dX5_value_91 rfl ?_
                  refine am_iconst hC dX5_value_95 ?_
                  refine am_iconst hC dX5_value_96 ?_
                  refine am_V3_qI hC 5 dX5_value_97 kX5_87 (m_Mmake (x := 0) (y := 1) _ _ v5 ok.1 (by decide) (by decide) a5 b5' (l24 a (by omega)) (l24 b (by omega)) (by omega)) k5 rfl (Nat.le_of_ble_eq_true rfl) (by decide) (by omega) (by omega) (fun v h8 r => ?_)
                  obtain ⟨ev, ⟨R8, v8, -⟩, o8⟩ := r
                  first
                    | exact am_iret hC hT dX5_value_100 (by omega) (by omega) ⟨_, rfl, Or.inl ⟨b0, by rw [aValue, if_pos (by simp; omega)]; exact ev, ⟨_, _, by rw [aValue, if_pos (by simp; omega)]; exact v8⟩, o3.tr ((only.r (R := R)).tr o8)⟩⟩
                    | exact am_iret hC hT dX5_value_100 (by omega) (by omega) ⟨_, rfl, Or.inl ⟨b0, by rw [aValue, if_neg (by simp; omega)]; exact ev, ⟨_, _, by rw [aValue, if_neg (by simp; omega)]; exact v8⟩, o3.tr ((only.r (R := R)).tr o8)⟩⟩
          · refine am_lload3 hC dX5_value_55 ?_
            refine am_lneg hC dX5_value_56 ?_
            refine am_goto hC 61 dX5_value_57 rfl ?_
            refine am_V2_qN hC 5 dX5_value_61 kX5_36 (m_Mset (x := 1) _ _ v4.x (by decide)) k4 rfl (Nat.le_of_ble_eq_true rfl) (by decide) (by omega) (by omega) (fun h5 r => ?_)
            obtain ⟨R5, e5, b5, f5⟩ := r
            rw [am_up_up] at e5
            subst e5
            have b5' : rg R5 1 b.natAbs := by
              first
              | (rw [show (-b % 18446744073709551616).toNat = b.natAbs by omega] at b5; exact b5)
              | (rw [show (b % 18446744073709551616).toNat = b.natAbs by omega] at b5; exact b5)
            have v5 := v3.r (R' := R5)
            have k5 := v5.1
            have a5 := a4'.kept f5 (by decide)
            refine am_aload0 hC dX5_value_64 ?_
            refine am_lload1 hC dX5_value_65 ?_
            refine am_lconst0 hC dX5_value_66 ?_
            refine am_lif_ge hC 75 dX5_value_67 dX5_value_68 rfl (by omega) (by omega) (fun c68 => ?_) (fun c68 => ?_)
            · refine am_iconst hC dX5_value_75 ?_
              refine am_lload3 hC dX5_value_76 ?_
              refine am_lconst0 hC dX5_value_77 ?_
              refine am_lif_ge hC 86 dX5_value_78 dX5_value_79 rfl (by omega) (by omega) (fun c79 => ?_) (fun c79 => ?_)
              · refine am_iconst hC dX5_value_86 ?_
                refine am_icmp_ne hC 94 dX5_value_87 rfl (by omega) (by omega) (fun c87 => ?_) (fun c87 => ?_)
                · refine am_iconst hC dX5_value_94 ?_
                  refine am_iconst hC dX5_value_95 ?_
                  refine am_iconst hC dX5_value_96 ?_
                  refine am_V3_qI hC 5 dX5_value_97 kX5_87 (m_Mmake (x := 0) (y := 1) _ _ v5 ok.1 (by decide) (by decide) a5 b5' (l24 a (by omega)) (l24 b (by omega)) (by omega)) k5 rfl (Nat.le_of_ble_eq_true rfl) (by decide) (by omega) (by omega) (fun v h8 r => ?_)
                  obtain ⟨ev, ⟨R8, v8, -⟩, o8⟩ := r
                  first
                    | exact am_iret hC hT dX5_value_100 (by omega) (by omega) ⟨_, rfl, Or.inl ⟨b0, by rw [aValue, if_pos (by simp; omega)]; exact ev, ⟨_, _, by rw [aValue, if_pos (by simp; omega)]; exact v8⟩, o3.tr ((only.r (R := R)).tr o8)⟩⟩
                    | exact am_iret hC hT dX5_value_100 (by omega) (by omega) ⟨_, rfl, Or.inl ⟨b0, by rw [aValue, if_neg (by simp; omega)]; exact ev, ⟨_, _, by rw [aValue, if_neg (by simp; omega)]; exact v8⟩, o3.tr ((only.r (R := R)).tr o8)⟩⟩
                · refine am_iconst hC dX5_value_90 ?_
                  refine am_goto hC 95 dX5_value_91 rfl ?_
                  refine am_iconst hC dX5_value_95 ?_
                  refine am_iconst hC dX5_value_96 ?_
                  refine am_V3_qI hC 5 dX5_value_97 kX5_87 (m_Mmake (x := 0) (y := 1) _ _ v5 ok.1 (by decide) (by decide) a5 b5' (l24 a (by omega)) (l24 b (by omega)) (by omega)) k5 rfl (Nat.le_of_ble_eq_true rfl) (by decide) (by omega) (by omega) (fun v h8 r => ?_)
                  obtain ⟨ev, ⟨R8, v8, -⟩, o8⟩ := r
                  first
                    | exact am_iret hC hT dX5_value_100 (by omega) (by omega) ⟨_, rfl, Or.inl ⟨b0, by rw [aValue, if_pos (by simp; omega)]; exact ev, ⟨_, _, by rw [aValue, if_pos (by simp; omega)]; exact v8⟩, o3.tr ((only.r (R := R)).tr o8)⟩⟩
                    | exact am_iret hC hT dX5_value_100 (by omega) (by omega) ⟨_, rfl, Or.inl ⟨b0, by rw [aValue, if_neg (by simp; omega)]; exact ev, ⟨_, _, by rw [aValue, if_neg (by simp; omega)]; exact v8⟩, o3.tr ((only.r (R := R)).tr o8)⟩⟩
              · refine am_iconst hC dX5_value_82 ?_
                refine am_goto hC 87 dX5_value_83 rfl ?_
                refine am_icmp_ne hC 94 dX5_value_87 rfl (by omega) (by omega) (fun c87 => ?_) (fun c87 => ?_)
                · refine am_iconst hC dX5_value_94 ?_
                  refine am_iconst hC dX5_value_95 ?_
                  refine am_iconst hC dX5_value_96 ?_
                  refine am_V3_qI hC 5 dX5_value_97 kX5_87 (m_Mmake (x := 0) (y := 1) _ _ v5 ok.1 (by decide) (by decide) a5 b5' (l24 a (by omega)) (l24 b (by omega)) (by omega)) k5 rfl (Nat.le_of_ble_eq_true rfl) (by decide) (by omega) (by omega) (fun v h8 r => ?_)
                  obtain ⟨ev, ⟨R8, v8, -⟩, o8⟩ := r
                  first
                    | exact am_iret hC hT dX5_value_100 (by omega) (by omega) ⟨_, rfl, Or.inl ⟨b0, by rw [aValue, if_pos (by simp; omega)]; exact ev, ⟨_, _, by rw [aValue, if_pos (by simp; omega)]; exact v8⟩, o3.tr ((only.r (R := R)).tr o8)⟩⟩
                    | exact am_iret hC hT dX5_value_100 (by omega) (by omega) ⟨_, rfl, Or.inl ⟨b0, by rw [aValue, if_neg (by simp; omega)]; exact ev, ⟨_, _, by rw [aValue, if_neg (by simp; omega)]; exact v8⟩, o3.tr ((only.r (R := R)).tr o8)⟩⟩
                · refine am_iconst hC dX5_value_90 ?_
                  refine am_goto hC 95 dX5_value_91 rfl ?_
                  refine am_iconst hC dX5_value_95 ?_
                  refine am_iconst hC dX5_value_96 ?_
                  refine am_V3_qI hC 5 dX5_value_97 kX5_87 (m_Mmake (x := 0) (y := 1) _ _ v5 ok.1 (by decide) (by decide) a5 b5' (l24 a (by omega)) (l24 b (by omega)) (by omega)) k5 rfl (Nat.le_of_ble_eq_true rfl) (by decide) (by omega) (by omega) (fun v h8 r => ?_)
                  obtain ⟨ev, ⟨R8, v8, -⟩, o8⟩ := r
                  first
                    | exact am_iret hC hT dX5_value_100 (by omega) (by omega) ⟨_, rfl, Or.inl ⟨b0, by rw [aValue, if_pos (by simp; omega)]; exact ev, ⟨_, _, by rw [aValue, if_pos (by simp; omega)]; exact v8⟩, o3.tr ((only.r (R := R)).tr o8)⟩⟩
                    | exact am_iret hC hT dX5_value_100 (by omega) (by omega) ⟨_, rfl, Or.inl ⟨b0, by rw [aValue, if_neg (by simp; omega)]; exact ev, ⟨_, _, by rw [aValue, if_neg (by simp; omega)]; exact v8⟩, o3.tr ((only.r (R := R)).tr o8)⟩⟩
            · refine am_iconst hC dX5_value_71 ?_
              refine am_goto hC 76 dX5_value_72 rfl ?_
              refine am_lload3 hC dX5_value_76 ?_
              refine am_lconst0 hC dX5_value_77 ?_
              refine am_lif_ge hC 86 dX5_value_78 dX5_value_79 rfl (by omega) (by omega) (fun c79 => ?_) (fun c79 => ?_)
              · refine am_iconst hC dX5_value_86 ?_
                refine am_icmp_ne hC 94 dX5_value_87 rfl (by omega) (by omega) (fun c87 => ?_) (fun c87 => ?_)
                · refine am_iconst hC dX5_value_94 ?_
                  refine am_iconst hC dX5_value_95 ?_
                  refine am_iconst hC dX5_value_96 ?_
                  refine am_V3_qI hC 5 dX5_value_97 kX5_87 (m_Mmake (x := 0) (y := 1) _ _ v5 ok.1 (by decide) (by decide) a5 b5' (l24 a (by omega)) (l24 b (by omega)) (by omega)) k5 rfl (Nat.le_of_ble_eq_true rfl) (by decide) (by omega) (by omega) (fun v h8 r => ?_)
                  obtain ⟨ev, ⟨R8, v8, -⟩, o8⟩ := r
                  first
                    | exact am_iret hC hT dX5_value_100 (by omega) (by omega) ⟨_, rfl, Or.inl ⟨b0, by rw [aValue, if_pos (by simp; omega)]; exact ev, ⟨_, _, by rw [aValue, if_pos (by simp; omega)]; exact v8⟩, o3.tr ((only.r (R := R)).tr o8)⟩⟩
                    | exact am_iret hC hT dX5_value_100 (by omega) (by omega) ⟨_, rfl, Or.inl ⟨b0, by rw [aValue, if_neg (by simp; omega)]; exact ev, ⟨_, _, by rw [aValue, if_neg (by simp; omega)]; exact v8⟩, o3.tr ((only.r (R := R)).tr o8)⟩⟩
                · refine am_iconst hC dX5_value_90 ?_
                  refine am_goto hC 95 dX5_value_91 rfl ?_
                  refine am_iconst hC dX5_value_95 ?_
                  refine am_iconst hC dX5_value_96 ?_
                  refine am_V3_qI hC 5 dX5_value_97 kX5_87 (m_Mmake (x := 0) (y := 1) _ _ v5 ok.1 (by decide) (by decide) a5 b5' (l24 a (by omega)) (l24 b (by omega)) (by omega)) k5 rfl (Nat.le_of_ble_eq_true rfl) (by decide) (by omega) (by omega) (fun v h8 r => ?_)
                  obtain ⟨ev, ⟨R8, v8, -⟩, o8⟩ := r
                  first
                    | exact am_iret hC hT dX5_value_100 (by omega) (by omega) ⟨_, rfl, Or.inl ⟨b0, by rw [aValue, if_pos (by simp; omega)]; exact ev, ⟨_, _, by rw [aValue, if_pos (by simp; omega)]; exact v8⟩, o3.tr ((only.r (R := R)).tr o8)⟩⟩
                    | exact am_iret hC hT dX5_value_100 (by omega) (by omega) ⟨_, rfl, Or.inl ⟨b0, by rw [aValue, if_neg (by simp; omega)]; exact ev, ⟨_, _, by rw [aValue, if_neg (by simp; omega)]; exact v8⟩, o3.tr ((only.r (R := R)).tr o8)⟩⟩
              · refine am_iconst hC dX5_value_82 ?_
                refine am_goto hC 87 dX5_value_83 rfl ?_
                refine am_icmp_ne hC 94 dX5_value_87 rfl (by omega) (by omega) (fun c87 => ?_) (fun c87 => ?_)
                · refine am_iconst hC dX5_value_94 ?_
                  refine am_iconst hC dX5_value_95 ?_
                  refine am_iconst hC dX5_value_96 ?_
                  refine am_V3_qI hC 5 dX5_value_97 kX5_87 (m_Mmake (x := 0) (y := 1) _ _ v5 ok.1 (by decide) (by decide) a5 b5' (l24 a (by omega)) (l24 b (by omega)) (by omega)) k5 rfl (Nat.le_of_ble_eq_true rfl) (by decide) (by omega) (by omega) (fun v h8 r => ?_)
                  obtain ⟨ev, ⟨R8, v8, -⟩, o8⟩ := r
                  first
                    | exact am_iret hC hT dX5_value_100 (by omega) (by omega) ⟨_, rfl, Or.inl ⟨b0, by rw [aValue, if_pos (by simp; omega)]; exact ev, ⟨_, _, by rw [aValue, if_pos (by simp; omega)]; exact v8⟩, o3.tr ((only.r (R := R)).tr o8)⟩⟩
                    | exact am_iret hC hT dX5_value_100 (by omega) (by omega) ⟨_, rfl, Or.inl ⟨b0, by rw [aValue, if_neg (by simp; omega)]; exact ev, ⟨_, _, by rw [aValue, if_neg (by simp; omega)]; exact v8⟩, o3.tr ((only.r (R := R)).tr o8)⟩⟩
                · refine am_iconst hC dX5_value_90 ?_
                  refine am_goto hC 95 dX5_value_91 rfl ?_
                  refine am_iconst hC dX5_value_95 ?_
                  refine am_iconst hC dX5_value_96 ?_
                  refine am_V3_qI hC 5 dX5_value_97 kX5_87 (m_Mmake (x := 0) (y := 1) _ _ v5 ok.1 (by decide) (by decide) a5 b5' (l24 a (by omega)) (l24 b (by omega)) (by omega)) k5 rfl (Nat.le_of_ble_eq_true rfl) (by decide) (by omega) (by omega) (fun v h8 r => ?_)
                  obtain ⟨ev, ⟨R8, v8, -⟩, o8⟩ := r
                  first
                    | exact am_iret hC hT dX5_value_100 (by omega) (by omega) ⟨_, rfl, Or.inl ⟨b0, by rw [aValue, if_pos (by simp; omega)]; exact ev, ⟨_, _, by rw [aValue, if_pos (by simp; omega)]; exact v8⟩, o3.tr ((only.r (R := R)).tr o8)⟩⟩
                    | exact am_iret hC hT dX5_value_100 (by omega) (by omega) ⟨_, rfl, Or.inl ⟨b0, by rw [aValue, if_neg (by simp; omega)]; exact ev, ⟨_, _, by rw [aValue, if_neg (by simp; omega)]; exact v8⟩, o3.tr ((only.r (R := R)).tr o8)⟩⟩
        · refine am_lload1 hC dX5_value_38 ?_
          refine am_lneg hC dX5_value_39 ?_
          refine am_goto hC 44 dX5_value_40 rfl ?_
          refine am_V2_qN hC 5 dX5_value_44 kX5_36 (m_Mset (x := 0) _ _ v3.x (by decide)) k3 rfl (Nat.le_of_ble_eq_true rfl) (by decide) (by omega) (by omega) (fun h4 r => ?_)
          obtain ⟨R4, rfl, a4, f4⟩ := r
          have a4' : rg R4 0 a.natAbs := by
            first
            | (rw [show (-a % 18446744073709551616).toNat = a.natAbs by omega] at a4; exact a4)
            | (rw [show (a % 18446744073709551616).toNat = a.natAbs by omega] at a4; exact a4)
          have v4 := v3.r (R' := R4)
          have k4 := v4.1
          refine am_aload0 hC dX5_value_47 ?_
          refine am_iconst hC dX5_value_48 ?_
          refine am_lload3 hC dX5_value_49 ?_
          refine am_lconst0 hC dX5_value_50 ?_
          refine am_lif_ge hC 60 dX5_value_51 dX5_value_52 rfl (by omega) (by omega) (fun c52 => ?_) (fun c52 => ?_)
          · refine am_lload3 hC dX5_value_60 ?_
            refine am_V2_qN hC 5 dX5_value_61 kX5_36 (m_Mset (x := 1) _ _ v4.x (by decide)) k4 rfl (Nat.le_of_ble_eq_true rfl) (by decide) (by omega) (by omega) (fun h5 r => ?_)
            obtain ⟨R5, e5, b5, f5⟩ := r
            rw [am_up_up] at e5
            subst e5
            have b5' : rg R5 1 b.natAbs := by
              first
              | (rw [show (-b % 18446744073709551616).toNat = b.natAbs by omega] at b5; exact b5)
              | (rw [show (b % 18446744073709551616).toNat = b.natAbs by omega] at b5; exact b5)
            have v5 := v3.r (R' := R5)
            have k5 := v5.1
            have a5 := a4'.kept f5 (by decide)
            refine am_aload0 hC dX5_value_64 ?_
            refine am_lload1 hC dX5_value_65 ?_
            refine am_lconst0 hC dX5_value_66 ?_
            refine am_lif_ge hC 75 dX5_value_67 dX5_value_68 rfl (by omega) (by omega) (fun c68 => ?_) (fun c68 => ?_)
            · refine am_iconst hC dX5_value_75 ?_
              refine am_lload3 hC dX5_value_76 ?_
              refine am_lconst0 hC dX5_value_77 ?_
              refine am_lif_ge hC 86 dX5_value_78 dX5_value_79 rfl (by omega) (by omega) (fun c79 => ?_) (fun c79 => ?_)
              · refine am_iconst hC dX5_value_86 ?_
                refine am_icmp_ne hC 94 dX5_value_87 rfl (by omega) (by omega) (fun c87 => ?_) (fun c87 => ?_)
                · refine am_iconst hC dX5_value_94 ?_
                  refine am_iconst hC dX5_value_95 ?_
                  refine am_iconst hC dX5_value_96 ?_
                  refine am_V3_qI hC 5 dX5_value_97 kX5_87 (m_Mmake (x := 0) (y := 1) _ _ v5 ok.1 (by decide) (by decide) a5 b5' (l24 a (by omega)) (l24 b (by omega)) (by omega)) k5 rfl (Nat.le_of_ble_eq_true rfl) (by decide) (by omega) (by omega) (fun v h8 r => ?_)
                  obtain ⟨ev, ⟨R8, v8, -⟩, o8⟩ := r
                  first
                    | exact am_iret hC hT dX5_value_100 (by omega) (by omega) ⟨_, rfl, Or.inl ⟨b0, by rw [aValue, if_pos (by simp; omega)]; exact ev, ⟨_, _, by rw [aValue, if_pos (by simp; omega)]; exact v8⟩, o3.tr ((only.r (R := R)).tr o8)⟩⟩
                    | exact am_iret hC hT dX5_value_100 (by omega) (by omega) ⟨_, rfl, Or.inl ⟨b0, by rw [aValue, if_neg (by simp; omega)]; exact ev, ⟨_, _, by rw [aValue, if_neg (by simp; omega)]; exact v8⟩, o3.tr ((only.r (R := R)).tr o8)⟩⟩
                · refine am_iconst hC dX5_value_90 ?_
                  refine am_goto hC 95 dX5_value_91 rfl ?_
                  refine am_iconst hC dX5_value_95 ?_
                  refine am_iconst hC dX5_value_96 ?_
                  refine am_V3_qI hC 5 dX5_value_97 kX5_87 (m_Mmake (x := 0) (y := 1) _ _ v5 ok.1 (by decide) (by decide) a5 b5' (l24 a (by omega)) (l24 b (by omega)) (by omega)) k5 rfl (Nat.le_of_ble_eq_true rfl) (by decide) (by omega) (by omega) (fun v h8 r => ?_)
                  obtain ⟨ev, ⟨R8, v8, -⟩, o8⟩ := r
                  first
                    | exact am_iret hC hT dX5_value_100 (by omega) (by omega) ⟨_, rfl, Or.inl ⟨b0, by rw [aValue, if_pos (by simp; omega)]; exact ev, ⟨_, _, by rw [aValue, if_pos (by simp; omega)]; exact v8⟩, o3.tr ((only.r (R := R)).tr o8)⟩⟩
                    | exact am_iret hC hT dX5_value_100 (by omega) (by omega) ⟨_, rfl, Or.inl ⟨b0, by rw [aValue, if_neg (by simp; omega)]; exact ev, ⟨_, _, by rw [aValue, if_neg (by simp; omega)]; exact v8⟩, o3.tr ((only.r (R := R)).tr o8)⟩⟩
              · refine am_iconst hC dX5_value_82 ?_
                refine am_goto hC 87 dX5_value_83 rfl ?_
                refine am_icmp_ne hC 94 dX5_value_87 rfl (by omega) (by omega) (fun c87 => ?_) (fun c87 => ?_)
                · refine am_iconst hC dX5_value_94 ?_
                  refine am_iconst hC dX5_value_95 ?_
                  refine am_iconst hC dX5_value_96 ?_
                  refine am_V3_qI hC 5 dX5_value_97 kX5_87 (m_Mmake (x := 0) (y := 1) _ _ v5 ok.1 (by decide) (by decide) a5 b5' (l24 a (by omega)) (l24 b (by omega)) (by omega)) k5 rfl (Nat.le_of_ble_eq_true rfl) (by decide) (by omega) (by omega) (fun v h8 r => ?_)
                  obtain ⟨ev, ⟨R8, v8, -⟩, o8⟩ := r
                  first
                    | exact am_iret hC hT dX5_value_100 (by omega) (by omega) ⟨_, rfl, Or.inl ⟨b0, by rw [aValue, if_pos (by simp; omega)]; exact ev, ⟨_, _, by rw [aValue, if_pos (by simp; omega)]; exact v8⟩, o3.tr ((only.r (R := R)).tr o8)⟩⟩
                    | exact am_iret hC hT dX5_value_100 (by omega) (by omega) ⟨_, rfl, Or.inl ⟨b0, by rw [aValue, if_neg (by simp; omega)]; exact ev, ⟨_, _, by rw [aValue, if_neg (by simp; omega)]; exact v8⟩, o3.tr ((only.r (R := R)).tr o8)⟩⟩
                · refine am_iconst hC dX5_value_90 ?_
                  refine am_goto hC 95 dX5_value_91 rfl ?_
                  refine am_iconst hC dX5_value_95 ?_
                  refine am_iconst hC dX5_value_96 ?_
                  refine am_V3_qI hC 5 dX5_value_97 kX5_87 (m_Mmake (x := 0) (y := 1) _ _ v5 ok.1 (by decide) (by decide) a5 b5' (l24 a (by omega)) (l24 b (by omega)) (by omega)) k5 rfl (Nat.le_of_ble_eq_true rfl) (by decide) (by omega) (by omega) (fun v h8 r => ?_)
                  obtain ⟨ev, ⟨R8, v8, -⟩, o8⟩ := r
                  first
                    | exact am_iret hC hT dX5_value_100 (by omega) (by omega) ⟨_, rfl, Or.inl ⟨b0, by rw [aValue, if_pos (by simp; omega)]; exact ev, ⟨_, _, by rw [aValue, if_pos (by simp; omega)]; exact v8⟩, o3.tr ((only.r (R := R)).tr o8)⟩⟩
                    | exact am_iret hC hT dX5_value_100 (by omega) (by omega) ⟨_, rfl, Or.inl ⟨b0, by rw [aValue, if_neg (by simp; omega)]; exact ev, ⟨_, _, by rw [aValue, if_neg (by simp; omega)]; exact v8⟩, o3.tr ((only.r (R := R)).tr o8)⟩⟩
            · refine am_iconst hC dX5_value_71 ?_
              refine am_goto hC 76 dX5_value_72 rfl ?_
              refine am_lload3 hC dX5_value_76 ?_
              refine am_lconst0 hC dX5_value_77 ?_
              refine am_lif_ge hC 86 dX5_value_78 dX5_value_79 rfl (by omega) (by omega) (fun c79 => ?_) (fun c79 => ?_)
              · refine am_iconst hC dX5_value_86 ?_
                refine am_icmp_ne hC 94 dX5_value_87 rfl (by omega) (by omega) (fun c87 => ?_) (fun c87 => ?_)
                · refine am_iconst hC dX5_value_94 ?_
                  refine am_iconst hC dX5_value_95 ?_
                  refine am_iconst hC dX5_value_96 ?_
                  refine am_V3_qI hC 5 dX5_value_97 kX5_87 (m_Mmake (x := 0) (y := 1) _ _ v5 ok.1 (by decide) (by decide) a5 b5' (l24 a (by omega)) (l24 b (by omega)) (by omega)) k5 rfl (Nat.le_of_ble_eq_true rfl) (by decide) (by omega) (by omega) (fun v h8 r => ?_)
                  obtain ⟨ev, ⟨R8, v8, -⟩, o8⟩ := r
                  first
                    | exact am_iret hC hT dX5_value_100 (by omega) (by omega) ⟨_, rfl, Or.inl ⟨b0, by rw [aValue, if_pos (by simp; omega)]; exact ev, ⟨_, _, by rw [aValue, if_pos (by simp; omega)]; exact v8⟩, o3.tr ((only.r (R := R)).tr o8)⟩⟩
                    | exact am_iret hC hT dX5_value_100 (by omega) (by omega) ⟨_, rfl, Or.inl ⟨b0, by rw [aValue, if_neg (by simp; omega)]; exact ev, ⟨_, _, by rw [aValue, if_neg (by simp; omega)]; exact v8⟩, o3.tr ((only.r (R := R)).tr o8)⟩⟩
                · refine am_iconst hC dX5_value_90 ?_
                  refine am_goto hC 95 dX5_value_91 rfl ?_
                  refine am_iconst hC dX5_value_95 ?_
                  refine am_iconst hC dX5_value_96 ?_
                  refine am_V3_qI hC 5 dX5_value_97 kX5_87 (m_Mmake (x := 0) (y := 1) _ _ v5 ok.1 (by decide) (by decide) a5 b5' (l24 a (by omega)) (l24 b (by omega)) (by omega)) k5 rfl (Nat.le_of_ble_eq_true rfl) (by decide) (by omega) (by omega) (fun v h8 r => ?_)
                  obtain ⟨ev, ⟨R8, v8, -⟩, o8⟩ := r
                  first
                    | exact am_iret hC hT dX5_value_100 (by omega) (by omega) ⟨_, rfl, Or.inl ⟨b0, by rw [aValue, if_pos (by simp; omega)]; exact ev, ⟨_, _, by rw [aValue, if_pos (by simp; omega)]; exact v8⟩, o3.tr ((only.r (R := R)).tr o8)⟩⟩
                    | exact am_iret hC hT dX5_value_100 (by omega) (by omega) ⟨_, rfl, Or.inl ⟨b0, by rw [aValue, if_neg (by simp; omega)]; exact ev, ⟨_, _, by rw [aValue, if_neg (by simp; omega)]; exact v8⟩, o3.tr ((only.r (R := R)).tr o8)⟩⟩
              · refine am_iconst hC dX5_value_82 ?_
                refine am_goto hC 87 dX5_value_83 rfl ?_
                refine am_icmp_ne hC 94 dX5_value_87 rfl (by omega) (by omega) (fun c87 => ?_) (fun c87 => ?_)
                · refine am_iconst hC dX5_value_94 ?_
                  refine am_iconst hC dX5_value_95 ?_
                  refine am_iconst hC dX5_value_96 ?_
                  refine am_V3_qI hC 5 dX5_value_97 kX5_87 (m_Mmake (x := 0) (y := 1) _ _ v5 ok.1 (by decide) (by decide) a5 b5' (l24 a (by omega)) (l24 b (by omega)) (by omega)) k5 rfl (Nat.le_of_ble_eq_true rfl) (by decide) (by omega) (by omega) (fun v h8 r => ?_)
                  obtain ⟨ev, ⟨R8, v8, -⟩, o8⟩ := r
                  first
                    | exact am_iret hC hT dX5_value_100 (by omega) (by omega) ⟨_, rfl, Or.inl ⟨b0, by rw [aValue, if_pos (by simp; omega)]; exact ev, ⟨_, _, by rw [aValue, if_pos (by simp; omega)]; exact v8⟩, o3.tr ((only.r (R := R)).tr o8)⟩⟩
                    | exact am_iret hC hT dX5_value_100 (by omega) (by omega) ⟨_, rfl, Or.inl ⟨b0, by rw [aValue, if_neg (by simp; omega)]; exact ev, ⟨_, _, by rw [aValue, if_neg (by simp; omega)]; exact v8⟩, o3.tr ((only.r (R := R)).tr o8)⟩⟩
                · refine am_iconst hC dX5_value_90 ?_
                  refine am_goto hC 95 dX5_value_91 rfl ?_
                  refine am_iconst hC dX5_value_95 ?_
                  refine am_iconst hC dX5_value_96 ?_
                  refine am_V3_qI hC 5 dX5_value_97 kX5_87 (m_Mmake (x := 0) (y := 1) _ _ v5 ok.1 (by decide) (by decide) a5 b5' (l24 a (by omega)) (l24 b (by omega)) (by omega)) k5 rfl (Nat.le_of_ble_eq_true rfl) (by decide) (by omega) (by omega) (fun v h8 r => ?_)
                  obtain ⟨ev, ⟨R8, v8, -⟩, o8⟩ := r
                  first
                    | exact am_iret hC hT dX5_value_100 (by omega) (by omega) ⟨_, rfl, Or.inl ⟨b0, by rw [aValue, if_pos (by simp; omega)]; exact ev, ⟨_, _, by rw [aValue, if_pos (by simp; omega)]; exact v8⟩, o3.tr ((only.r (R := R)).tr o8)⟩⟩
                    | exact am_iret hC hT dX5_value_100 (by omega) (by omega) ⟨_, rfl, Or.inl ⟨b0, by rw [aValue, if_neg (by simp; omega)]; exact ev, ⟨_, _, by rw [aValue, if_neg (by simp; omega)]; exact v8⟩, o3.tr ((only.r (R := R)).tr o8)⟩⟩
          · refine am_lload3 hC dX5_value_55 ?_
            refine am_lneg hC dX5_value_56 ?_
            refine am_goto hC 61 dX5_value_57 rfl ?_
            refine am_V2_qN hC 5 dX5_value_61 kX5_36 (m_Mset (x := 1) _ _ v4.x (by decide)) k4 rfl (Nat.le_of_ble_eq_true rfl) (by decide) (by omega) (by omega) (fun h5 r => ?_)
            obtain ⟨R5, e5, b5, f5⟩ := r
            rw [am_up_up] at e5
            subst e5
            have b5' : rg R5 1 b.natAbs := by
              first
              | (rw [show (-b % 18446744073709551616).toNat = b.natAbs by omega] at b5; exact b5)
              | (rw [show (b % 18446744073709551616).toNat = b.natAbs by omega] at b5; exact b5)
            have v5 := v3.r (R' := R5)
            have k5 := v5.1
            have a5 := a4'.kept f5 (by decide)
            refine am_aload0 hC dX5_value_64 ?_
            refine am_lload1 hC dX5_value_65 ?_
            refine am_lconst0 hC dX5_value_66 ?_
            refine am_lif_ge hC 75 dX5_value_67 dX5_value_68 rfl (by omega) (by omega) (fun c68 => ?_) (fun c68 => ?_)
            · refine am_iconst hC dX5_value_75 ?_
              refine am_lload3 hC dX5_value_76 ?_
              refine am_lconst0 hC dX5_value_77 ?_
              refine am_lif_ge hC 86 dX5_value_78 dX5_value_79 rfl (by omega) (by omega) (fun c79 => ?_) (fun c79 => ?_)
              · refine am_iconst hC dX5_value_86 ?_
                refine am_icmp_ne hC 94 dX5_value_87 rfl (by omega) (by omega) (fun c87 => ?_) (fun c87 => ?_)
                · refine am_iconst hC dX5_value_94 ?_
                  refine am_iconst hC dX5_value_95 ?_
                  refine am_iconst hC dX5_value_96 ?_
                  refine am_V3_qI hC 5 dX5_value_97 kX5_87 (m_Mmake (x := 0) (y := 1) _ _ v5 ok.1 (by decide) (by decide) a5 b5' (l24 a (by omega)) (l24 b (by omega)) (by omega)) k5 rfl (Nat.le_of_ble_eq_true rfl) (by decide) (by omega) (by omega) (fun v h8 r => ?_)
                  obtain ⟨ev, ⟨R8, v8, -⟩, o8⟩ := r
                  first
                    | exact am_iret hC hT dX5_value_100 (by omega) (by omega) ⟨_, rfl, Or.inl ⟨b0, by rw [aValue, if_pos (by simp; omega)]; exact ev, ⟨_, _, by rw [aValue, if_pos (by simp; omega)]; exact v8⟩, o3.tr ((only.r (R := R)).tr o8)⟩⟩
                    | exact am_iret hC hT dX5_value_100 (by omega) (by omega) ⟨_, rfl, Or.inl ⟨b0, by rw [aValue, if_neg (by simp; omega)]; exact ev, ⟨_, _, by rw [aValue, if_neg (by simp; omega)]; exact v8⟩, o3.tr ((only.r (R := R)).tr o8)⟩⟩
                · refine am_iconst hC dX5_value_90 ?_
                  refine am_goto hC 95 dX5_value_91 rfl ?_
                  refine am_iconst hC dX5_value_95 ?_
                  refine am_iconst hC dX5_value_96 ?_
                  refine am_V3_qI hC 5 dX5_value_97 kX5_87 (m_Mmake (x := 0) (y := 1) _ _ v5 ok.1 (by decide) (by decide) a5 b5' (l24 a (by omega)) (l24 b (by omega)) (by omega)) k5 rfl (Nat.le_of_ble_eq_true rfl) (by decide) (by omega) (by omega) (fun v h8 r => ?_)
                  obtain ⟨ev, ⟨R8, v8, -⟩, o8⟩ := r
                  first
                    | exact am_iret hC hT dX5_value_100 (by omega) (by omega) ⟨_, rfl, Or.inl ⟨b0, by rw [aValue, if_pos (by simp; omega)]; exact ev, ⟨_, _, by rw [aValue, if_pos (by simp; omega)]; exact v8⟩, o3.tr ((only.r (R := R)).tr o8)⟩⟩
                    | exact am_iret hC hT dX5_value_100 (by omega) (by omega) ⟨_, rfl, Or.inl ⟨b0, by rw [aValue, if_neg (by simp; omega)]; exact ev, ⟨_, _, by rw [aValue, if_neg (by simp; omega)]; exact v8⟩, o3.tr ((only.r (R := R)).tr o8)⟩⟩
              · refine am_iconst hC dX5_value_82 ?_
                refine am_goto hC 87 dX5_value_83 rfl ?_
                refine am_icmp_ne hC 94 dX5_value_87 rfl (by omega) (by omega) (fun c87 => ?_) (fun c87 => ?_)
                · refine am_iconst hC dX5_value_94 ?_
                  refine am_iconst hC dX5_value_95 ?_
                  refine am_iconst hC dX5_value_96 ?_
                  refine am_V3_qI hC 5 dX5_value_97 kX5_87 (m_Mmake (x := 0) (y := 1) _ _ v5 ok.1 (by decide) (by decide) a5 b5' (l24 a (by omega)) (l24 b (by omega)) (by omega)) k5 rfl (Nat.le_of_ble_eq_true rfl) (by decide) (by omega) (by omega) (fun v h8 r => ?_)
                  obtain ⟨ev, ⟨R8, v8, -⟩, o8⟩ := r
                  first
                    | exact am_iret hC hT dX5_value_100 (by omega) (by omega) ⟨_, rfl, Or.inl ⟨b0, by rw [aValue, if_pos (by simp; omega)]; exact ev, ⟨_, _, by rw [aValue, if_pos (by simp; omega)]; exact v8⟩, o3.tr ((only.r (R := R)).tr o8)⟩⟩
                    | exact am_iret hC hT dX5_value_100 (by omega) (by omega) ⟨_, rfl, Or.inl ⟨b0, by rw [aValue, if_neg (by simp; omega)]; exact ev, ⟨_, _, by rw [aValue, if_neg (by simp; omega)]; exact v8⟩, o3.tr ((only.r (R := R)).tr o8)⟩⟩
                · refine am_iconst hC dX5_value_90 ?_
                  refine am_goto hC 95 dX5_value_91 rfl ?_
                  refine am_iconst hC dX5_value_95 ?_
                  refine am_iconst hC dX5_value_96 ?_
                  refine am_V3_qI hC 5 dX5_value_97 kX5_87 (m_Mmake (x := 0) (y := 1) _ _ v5 ok.1 (by decide) (by decide) a5 b5' (l24 a (by omega)) (l24 b (by omega)) (by omega)) k5 rfl (Nat.le_of_ble_eq_true rfl) (by decide) (by omega) (by omega) (fun v h8 r => ?_)
                  obtain ⟨ev, ⟨R8, v8, -⟩, o8⟩ := r
                  first
                    | exact am_iret hC hT dX5_value_100 (by omega) (by omega) ⟨_, rfl, Or.inl ⟨b0, by rw [aValue, if_pos (by simp; omega)]; exact ev, ⟨_, _, by rw [aValue, if_pos (by simp; omega)]; exact v8⟩, o3.tr ((only.r (R := R)).tr o8)⟩⟩
                    | exact am_iret hC hT dX5_value_100 (by omega) (by omega) ⟨_, rfl, Or.inl ⟨b0, by rw [aValue, if_neg (by simp; omega)]; exact ev, ⟨_, _, by rw [aValue, if_neg (by simp; omega)]; exact v8⟩, o3.tr ((only.r (R := R)).tr o8)⟩⟩
            · refine am_iconst hC dX5_value_71 ?_
              refine am_goto hC 76 dX5_value_72 rfl ?_
              refine am_lload3 hC dX5_value_76 ?_
              refine am_lconst0 hC dX5_value_77 ?_
              refine am_lif_ge hC 86 dX5_value_78 dX5_value_79 rfl (by omega) (by omega) (fun c79 => ?_) (fun c79 => ?_)
              · refine am_iconst hC dX5_value_86 ?_
                refine am_icmp_ne hC 94 dX5_value_87 rfl (by omega) (by omega) (fun c87 => ?_) (fun c87 => ?_)
                · refine am_iconst hC dX5_value_94 ?_
                  refine am_iconst hC dX5_value_95 ?_
                  refine am_iconst hC dX5_value_96 ?_
                  refine am_V3_qI hC 5 dX5_value_97 kX5_87 (m_Mmake (x := 0) (y := 1) _ _ v5 ok.1 (by decide) (by decide) a5 b5' (l24 a (by omega)) (l24 b (by omega)) (by omega)) k5 rfl (Nat.le_of_ble_eq_true rfl) (by decide) (by omega) (by omega) (fun v h8 r => ?_)
                  obtain ⟨ev, ⟨R8, v8, -⟩, o8⟩ := r
                  first
                    | exact am_iret hC hT dX5_value_100 (by omega) (by omega) ⟨_, rfl, Or.inl ⟨b0, by rw [aValue, if_pos (by simp; omega)]; exact ev, ⟨_, _, by rw [aValue, if_pos (by simp; omega)]; exact v8⟩, o3.tr ((only.r (R := R)).tr o8)⟩⟩
                    | exact am_iret hC hT dX5_value_100 (by omega) (by omega) ⟨_, rfl, Or.inl ⟨b0, by rw [aValue, if_neg (by simp; omega)]; exact ev, ⟨_, _, by rw [aValue, if_neg (by simp; omega)]; exact v8⟩, o3.tr ((only.r (R := R)).tr o8)⟩⟩
                · refine am_iconst hC dX5_value_90 ?_
                  refine am_goto hC 95 dX5_value_91 rfl ?_
                  refine am_iconst hC dX5_value_95 ?_
                  refine am_iconst hC dX5_value_96 ?_
                  refine am_V3_qI hC 5 dX5_value_97 kX5_87 (m_Mmake (x := 0) (y := 1) _ _ v5 ok.1 (by decide) (by decide) a5 b5' (l24 a (by omega)) (l24 b (by omega)) (by omega)) k5 rfl (Nat.le_of_ble_eq_true rfl) (by decide) (by omega) (by omega) (fun v h8 r => ?_)
                  obtain ⟨ev, ⟨R8, v8, -⟩, o8⟩ := r
                  first
                    | exact am_iret hC hT dX5_value_100 (by omega) (by omega) ⟨_, rfl, Or.inl ⟨b0, by rw [aValue, if_pos (by simp; omega)]; exact ev, ⟨_, _, by rw [aValue, if_pos (by simp; omega)]; exact v8⟩, o3.tr ((only.r (R := R)).tr o8)⟩⟩
                    | exact am_iret hC hT dX5_value_100 (by omega) (by omega) ⟨_, rfl, Or.inl ⟨b0, by rw [aValue, if_neg (by simp; omega)]; exact ev, ⟨_, _, by rw [aValue, if_neg (by simp; omega)]; exact v8⟩, o3.tr ((only.r (R := R)).tr o8)⟩⟩
              · refine am_iconst hC dX5_value_82 ?_
                refine am_goto hC 87 dX5_value_83 rfl ?_
                refine am_icmp_ne hC 94 dX5_value_87 rfl (by omega) (by omega) (fun c87 => ?_) (fun c87 => ?_)
                · refine am_iconst hC dX5_value_94 ?_
                  refine am_iconst hC dX5_value_95 ?_
                  refine am_iconst hC dX5_value_96 ?_
                  refine am_V3_qI hC 5 dX5_value_97 kX5_87 (m_Mmake (x := 0) (y := 1) _ _ v5 ok.1 (by decide) (by decide) a5 b5' (l24 a (by omega)) (l24 b (by omega)) (by omega)) k5 rfl (Nat.le_of_ble_eq_true rfl) (by decide) (by omega) (by omega) (fun v h8 r => ?_)
                  obtain ⟨ev, ⟨R8, v8, -⟩, o8⟩ := r
                  first
                    | exact am_iret hC hT dX5_value_100 (by omega) (by omega) ⟨_, rfl, Or.inl ⟨b0, by rw [aValue, if_pos (by simp; omega)]; exact ev, ⟨_, _, by rw [aValue, if_pos (by simp; omega)]; exact v8⟩, o3.tr ((only.r (R := R)).tr o8)⟩⟩
                    | exact am_iret hC hT dX5_value_100 (by omega) (by omega) ⟨_, rfl, Or.inl ⟨b0, by rw [aValue, if_neg (by simp; omega)]; exact ev, ⟨_, _, by rw [aValue, if_neg (by simp; omega)]; exact v8⟩, o3.tr ((only.r (R := R)).tr o8)⟩⟩
                · refine am_iconst hC dX5_value_90 ?_
                  refine am_goto hC 95 dX5_value_91 rfl ?_
                  refine am_iconst hC dX5_value_95 ?_
                  refine am_iconst hC dX5_value_96 ?_
                  refine am_V3_qI hC 5 dX5_value_97 kX5_87 (m_Mmake (x := 0) (y := 1) _ _ v5 ok.1 (by decide) (by decide) a5 b5' (l24 a (by omega)) (l24 b (by omega)) (by omega)) k5 rfl (Nat.le_of_ble_eq_true rfl) (by decide) (by omega) (by omega) (fun v h8 r => ?_)
                  obtain ⟨ev, ⟨R8, v8, -⟩, o8⟩ := r
                  first
                    | exact am_iret hC hT dX5_value_100 (by omega) (by omega) ⟨_, rfl, Or.inl ⟨b0, by rw [aValue, if_pos (by simp; omega)]; exact ev, ⟨_, _, by rw [aValue, if_pos (by simp; omega)]; exact v8⟩, o3.tr ((only.r (R := R)).tr o8)⟩⟩
                    | exact am_iret hC hT dX5_value_100 (by omega) (by omega) ⟨_, rfl, Or.inl ⟨b0, by rw [aValue, if_neg (by simp; omega)]; exact ev, ⟨_, _, by rw [aValue, if_neg (by simp; omega)]; exact v8⟩, o3.tr ((only.r (R := R)).tr o8)⟩⟩
      · exact absurd c19 (by omega)
    · exact absurd c4 (by omega)

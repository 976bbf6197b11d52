/-! the Model's methods: thrown, sign, times -/
def mOut (h h1 : am_H) (th : Int) (s : aS) : Prop := (∃ wd R, eS h1 s th wd R) ∧ only h h1 K45
theorem m_MnoValue (l : Launch) (g : am_G) {h : am_H} {i : Int} (hi : IR i) :
    am_Met l g yX5_noValue (am_W1 yX5_noValue cX5_noValue 1 (some .boolean)) 1 0 0 [vI i] h (qI fun v h1 => h1 = h ∧ ((v = 0 ∧ okV i) ∨ (v = 1 ∧ ¬ okV i))) := by
  refine am_mk [some (vI i)] 0 rfl rfl (by decide +kernel) (fun z hl hg hC hT _ => ?_)
  refine am_iload0 hC dX5_noValue_0 ?_
  refine am_if_lt hC 11 dX5_noValue_1 rfl (by omega) (fun c1 => ?_) (fun c1 => ?_)
  · refine am_iconst hC dX5_noValue_11 ?_
    refine am_goto hC 16 dX5_noValue_12 rfl ?_
    first
      | exact am_zret hC hT dX5_noValue_16 (by omega) (by omega) (by omega) ⟨_, rfl, rfl, Or.inl ⟨rfl, by omega, by omega⟩⟩
      | exact am_zret hC hT dX5_noValue_16 (by omega) (by omega) (by omega) ⟨_, rfl, rfl, Or.inr ⟨rfl, by unfold okV; omega⟩⟩
  · refine am_iload0 hC dX5_noValue_4 ?_
    refine am_sipush hC dX5_noValue_5 rfl ?_
    refine am_icmp_lt hC 15 dX5_noValue_8 rfl (by omega) (by omega) (fun c8 => ?_) (fun c8 => ?_)
    · refine am_iconst hC dX5_noValue_15 ?_
      first
        | exact am_zret hC hT dX5_noValue_16 (by omega) (by omega) (by omega) ⟨_, rfl, rfl, Or.inl ⟨rfl, by omega, by omega⟩⟩
        | exact am_zret hC hT dX5_noValue_16 (by omega) (by omega) (by omega) ⟨_, rfl, rfl, Or.inr ⟨rfl, by unfold okV; omega⟩⟩
    · refine am_iconst hC dX5_noValue_11 ?_
      refine am_goto hC 16 dX5_noValue_12 rfl ?_
      first
        | exact am_zret hC hT dX5_noValue_16 (by omega) (by omega) (by omega) ⟨_, rfl, rfl, Or.inl ⟨rfl, by omega, by omega⟩⟩
        | exact am_zret hC hT dX5_noValue_16 (by omega) (by omega) (by omega) ⟨_, rfl, rfl, Or.inr ⟨rfl, by unfold okV; omega⟩⟩
theorem m_Mthrown (l : Launch) (g : am_G) {h : am_H} {s : aS} {th : Int} {wd : Nat} {R : Nat → Int} (w : eS h s th wd R) :
    am_Met l g yX5_thrown (am_W1 yX5_thrown cX5_thrown 1 (some .int)) 1 0 0 [.ref 43] h (pI th h) := by
  have h0 := w.1
  refine am_mk [some (.ref 43)] 0 rfl rfl (by decide +kernel) (fun z hl hg hC hT _ => ?_)
  refine am_aload0 hC dX5_thrown_0 ?_
  refine am_getf hC dX5_thrown_1 fX5_33 h0 rfl ?_
  exact am_iret hC hT dX5_thrown_4 (by omega) (by omega) ⟨rfl, rfl⟩
theorem only.o {h : am_H} {e : am_E} : only h (am_up h 43 e) K45 := only_up (by simp)
theorem m_Msign (l : Launch) (g : am_G) {h : am_H} {s : aS} {th i : Int} {wd : Nat} {R : Nat → Int} (w : eS h s th wd R) (hi : IR i) :
    am_Met l g yX5_sign (am_W1 yX5_sign cX5_sign 2 (some .int)) 2 0 0 [.ref 43, vI i] h (qI fun v h1 => (okV i ∧ v = (s.2.1 i.toNat).1 ∧ mOut h h1 0 s) ∨ (¬ okV i ∧ mOut h h1 1 s)) := by
  have h0 := w.1
  refine am_mk [some (.ref 43), some (vI i)] 0 rfl rfl (by decide +kernel) (fun z hl hg hC hT _ => ?_)
  refine am_aload0 hC dX5_sign_0 ?_
  refine am_iload1 hC dX5_sign_1 ?_
  refine am_S1_qI hC dX5_sign_2 kX5_91 (m_MnoValue _ _ hi) (Nat.le_of_ble_eq_true rfl) (by decide) (by omega) (by omega) (fun v h1 q => ?_)
  obtain ⟨e, q⟩ := q
  rw [e]
  clear e
  refine am_if_eq hC 12 dX5_sign_5 rfl (by omega) (fun c5 => ?_) (fun c5 => ?_)
  · refine am_iconst hC dX5_sign_12 ?_
    refine am_putf hC dX5_sign_13 pX5_33 (fun q => by cases q) h0 (am_fitI _) (Nat.le_of_ble_eq_true rfl) ?_
    rw [rO_set0]
    refine am_heap (fun H2 e2 => ?_)
    have tv : ∀ t : Int, H2 = am_up h 43 (rO t wd s.1 s.2.2.1 s.2.2.2.2.1) → eS H2 s t wd R ∧ only h H2 K45 := fun t et => by rw [et]; exact ⟨w.o w.2.2.1, only.o⟩
    have v2 := tv _ e2
    have k2 := v2.1.1
    obtain ⟨⟨fs, s1, s2⟩, -, -⟩ := v2.1.2.2.2.1
    clear e2 tv
    refine am_aload0 hC dX5_sign_16 ?_
    refine am_getf hC dX5_sign_17 fX5_33 k2 rfl ?_
    refine am_if_le hC 27 dX5_sign_20 rfl (by omega) (fun c20 => ?_) (fun c20 => ?_)
    · refine am_aload0 hC dX5_sign_27 ?_
      refine am_getf hC dX5_sign_28 fX5_17 k2 rfl ?_
      refine am_iload1 hC dX5_sign_31 ?_
      have oi : okV i := by rcases q with q | q; (· exact q.2); (· omega)
      have oi1 := oi.1
      have oi2 := oi.2
      refine am_iald hC dX5_sign_32 s1 (by omega) (by omega) ?_
      rw [s2 _ (by omega)]
      first
        | exact am_iret hC hT dX5_sign_33 (by omega) (by omega) ⟨_, rfl, Or.inl ⟨oi, rfl, ⟨_, _, v2.1⟩, v2.2⟩⟩
        | exact am_iret hC hT dX5_sign_33 (by omega) (by omega) ⟨_, rfl, Or.inr ⟨by rcases q with q | q; (· omega); (· exact q.2), ⟨_, _, v2.1⟩, v2.2⟩⟩
        | exact absurd c20 (by decide)
    · refine am_iconst hC dX5_sign_23 ?_
      refine am_goto hC 33 dX5_sign_24 rfl ?_
      first
        | exact am_iret hC hT dX5_sign_33 (by omega) (by omega) ⟨_, rfl, Or.inl ⟨oi, rfl, ⟨_, _, v2.1⟩, v2.2⟩⟩
        | exact am_iret hC hT dX5_sign_33 (by omega) (by omega) ⟨_, rfl, Or.inr ⟨by rcases q with q | q; (· omega); (· exact q.2), ⟨_, _, v2.1⟩, v2.2⟩⟩
        | exact absurd c20 (by decide)
  · refine am_iconst hC dX5_sign_8 ?_
    refine am_goto hC 13 dX5_sign_9 rfl ?_
    refine am_putf hC dX5_sign_13 pX5_33 (fun q => by cases q) h0 (am_fitI _) (Nat.le_of_ble_eq_true rfl) ?_
    rw [rO_set0]
    refine am_heap (fun H2 e2 => ?_)
    have tv : ∀ t : Int, H2 = am_up h 43 (rO t wd s.1 s.2.2.1 s.2.2.2.2.1) → eS H2 s t wd R ∧ only h H2 K45 := fun t et => by rw [et]; exact ⟨w.o w.2.2.1, only.o⟩
    have v2 := tv _ e2
    have k2 := v2.1.1
    obtain ⟨⟨fs, s1, s2⟩, -, -⟩ := v2.1.2.2.2.1
    clear e2 tv
    refine am_aload0 hC dX5_sign_16 ?_
    refine am_getf hC dX5_sign_17 fX5_33 k2 rfl ?_
    refine am_if_le hC 27 dX5_sign_20 rfl (by omega) (fun c20 => ?_) (fun c20 => ?_)
    · refine am_aload0 hC dX5_sign_27 ?_
      refine am_getf hC dX5_sign_28 fX5_17 k2 rfl ?_
      refine am_iload1 hC dX5_sign_31 ?_
      have oi : okV i := by rcases q with q | q; (· exact q.2); (· omega)
      have oi1 := oi.1
      have oi2 := oi.2
      refine am_iald hC dX5_sign_32 s1 (by omega) (by omega) ?_
      rw [s2 _ (by omega)]
      first
        | exact am_iret hC hT dX5_sign_33 (by omega) (by omega) ⟨_, rfl, Or.inl ⟨oi, rfl, ⟨_, _, v2.1⟩, v2.2⟩⟩
        | exact am_iret hC hT dX5_sign_33 (by omega) (by omega) ⟨_, rfl, Or.inr ⟨by rcases q with q | q; (· omega); (· exact q.2), ⟨_, _, v2.1⟩, v2.2⟩⟩
        | exact absurd c20 (by decide)
    · refine am_iconst hC dX5_sign_23 ?_
      refine am_goto hC 33 dX5_sign_24 rfl ?_
      first
        | exact am_iret hC hT dX5_sign_33 (by omega) (by omega) ⟨_, rfl, Or.inl ⟨oi, rfl, ⟨_, _, v2.1⟩, v2.2⟩⟩
        | exact am_iret hC hT dX5_sign_33 (by omega) (by omega) ⟨_, rfl, Or.inr ⟨by rcases q with q | q; (· omega); (· exact q.2), ⟨_, _, v2.1⟩, v2.2⟩⟩
        | exact absurd c20 (by decide)

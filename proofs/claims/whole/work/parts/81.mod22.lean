/-! the Model's rootOf -/
theorem isq_u {n s : Nat} (h1 : s * s ≤ n) (h2 : n < (s + 1) * (s + 1)) : isq n = s := by
  have q := isq_s n
  rcases Nat.lt_trichotomy (isq n) s with c | c | c
  · exact absurd (Nat.lt_of_lt_of_le q.2 (Nat.le_trans (Nat.mul_le_mul (Nat.succ_le_of_lt c) (Nat.succ_le_of_lt c)) h1)) (Nat.lt_irrefl _)
  · exact c
  · exact absurd (Nat.lt_of_lt_of_le h2 (Nat.le_trans (Nat.mul_le_mul (Nat.succ_le_of_lt c) (Nat.succ_le_of_lt c)) q.1)) (Nat.lt_irrefl _)
theorem isq_z : isq 0 = 0 := isq_u (Nat.le_refl _) (by decide)
theorem sq1 (s : Nat) : (s + 1) * (s + 1) = s * s + 2 * s + 1 := by
  simp only [Nat.add_mul, Nat.mul_add, Nat.mul_one, Nat.one_mul]
  omega
theorem isq_step {p b s : Nat} (hs : s = isq p) (hb : b < 4) : (4 * s + 1 ≤ 4 * (p - s * s) + b → isq (4 * p + b) = 2 * s + 1 ∧ 4 * p + b - (2 * s + 1) * (2 * s + 1) = 4 * (p - s * s) + b - (4 * s + 1)) ∧ (4 * (p - s * s) + b < 4 * s + 1 → isq (4 * p + b) = 2 * s ∧ 4 * p + b - 2 * s * (2 * s) = 4 * (p - s * s) + b) := by
  have q := isq_s p
  rw [← hs] at q
  have e1 := sq1 s
  have e2 : 2 * s * (2 * s) = 4 * (s * s) := by rw [Nat.mul_mul_mul_comm]
  have e3 : (2 * s + 1) * (2 * s + 1) = 4 * (s * s) + 4 * s + 1 := by rw [sq1, e2]; omega
  have e4 : (2 * s + 1 + 1) * (2 * s + 1 + 1) = 4 * (s * s) + 8 * s + 4 := by rw [sq1, e3]; omega
  obtain ⟨S, hS⟩ : ∃ S, S = s * s := ⟨_, rfl⟩
  rw [e1] at q
  rw [← hS] at q e2 e3 e4 ⊢
  refine ⟨fun c => ⟨isq_u (by rw [e3]; omega) (by rw [e4]; omega), by rw [e3]; omega⟩, fun c => ⟨isq_u (by rw [e2]; omega) (by rw [e3]; omega), by rw [e2]; omega⟩⟩
theorem rg.inc {R : Nat → Int} {x a b : Nat} {v : Int} (w : rg R x a) (ha : a % 2 = 0) (hb : b ≤ 1) (hv : v = (pg a 0 : Int) + (b : Int)) : rg (am_fu R (160 * x) v) x (a + b) := by
  rcases Nat.lt_or_ge b 1 with c | c
  · rw [show b = 0 by omega, Nat.add_zero]
    intro j hj
    by_cases e : j = 0
    · subst e; rw [Nat.add_zero, am_fu_at]; omega
    · rw [am_fu_lt (by omega)]; exact w j hj
  · rw [show b = 1 by omega]
    exact w.bit (k := 0) (v := v) (by omega) (by omega) (by rw [hv, show b = 1 by omega])
theorem m_MrootOf (l : Launch) (g : am_G) {h : am_H} {wd x t a : Nat} {R : Nat → Int} (w : rX h wd R) (hx : x < 10) (ht : t < 10) (xt : x ≠ t) (p : rg R x a) (la : 4 * a + 4 < 32768 ^ wd) :
    am_Met l g yX5_rootOf (am_W1 yX5_rootOf cX5_rootOf 5 none) 2 0 0 [.ref 43, vI (x : Int), vI (t : Int)] h (qN fun h1 => ∃ R', h1 = am_up h 44 (eI 1920 R') ∧ rg R' t (isq a) ∧ rF R R' [t, 10, 11]) := by
  have w' := w
  obtain ⟨⟨th, us, ro, to, h0⟩, h1, w1, w2⟩ := w
  refine am_mk [some (.ref 43), some (vI (x : Int)), some (vI (t : Int)), none, none] 2 rfl rfl (by decide +kernel) (fun z hl hg hC hT _ => ?_)
  have bw : bl a ≤ 15 * wd := bl_le.mpr (by rw [← B15]; omega)
  obtain ⟨n, hn⟩ : ∃ n, n = (bl a + 1) / 2 := ⟨_, rfl⟩
  have G0 : ∀ R' : Nat → Int, (am_up h 44 (eI 1920 R')).2 43 = some (rO th wd us ro to) := fun R' => (am_up_ne h (eI 1920 R') (show 43 ≠ 44 by decide)).trans h0
  have loop : ∀ (k : Nat) (R' : Nat → Int), k ≤ n → rF R R' [t, 10, 11] → rg R' t (isq (a / 2 ^ (2 * k))) → rg R' 10 (a / 2 ^ (2 * k) - isq (a / 2 ^ (2 * k)) * isq (a / 2 ^ (2 * k))) → am_W z 28 0 0 (am_up h 44 (eI 1920 R')) [some (.ref 43), some (vI (x : Int)), some (vI (t : Int)), some (vI (n : Int)), some (vI ((k : Int) - 1))] [] := by
    intro k
    induction k with
    | zero =>
      intro R' hk o rs rk
      rw [Nat.mul_zero, Nat.pow_zero, Nat.div_one] at rs
      refine am_iload4 hC dX5_rootOf_28 ?_
      refine am_if_lt hC 162 dX5_rootOf_30 rfl (by omega) (fun c30 => ?_) (fun c30 => ?_)
      · exact am_vret hC hT dX5_rootOf_162 (by omega) (by omega) ⟨rfl, R', rfl, rs, o⟩
      · exact absurd c30 (by omega)
    | succ k ih =>
      intro R' hk o rs rk
      rw [show ((k + 1 : Nat) : Int) - 1 = (k : Int) by omega]
      have g0 := G0 R'
      obtain ⟨q, hq⟩ : ∃ q, q = a / 2 ^ (2 * k) := ⟨_, rfl⟩
      have hp : a / 2 ^ (2 * (k + 1)) = q / 2 / 2 := by rw [show 2 * (k + 1) = 2 * k + 1 + 1 by omega, Nat.pow_succ, Nat.pow_succ, ← Nat.div_div_eq_div_mul, ← Nat.div_div_eq_div_mul, ← hq]
      have hb1 : a / 2 ^ (2 * k + 1) = q / 2 := by rw [Nat.pow_succ, ← Nat.div_div_eq_div_mul, ← hq]
      have qa : q ≤ a := by rw [hq]; exact Nat.div_le_self _ _
      obtain ⟨P, hP⟩ : ∃ P, P = q / 2 / 2 := ⟨_, rfl⟩
      rw [hp, ← hP] at rs rk
      obtain ⟨s, hs⟩ : ∃ s, s = isq P := ⟨_, rfl⟩
      rw [← hs] at rs rk
      have ss := (isq_s P).1
      rw [← hs] at ss
      have sP : s ≤ P := Nat.le_trans (Nat.le_mul_self s) ss
      obtain ⟨b1, hb1'⟩ : ∃ b1, b1 = q / 2 % 2 := ⟨_, rfl⟩
      obtain ⟨b0, hb0'⟩ : ∃ b0, b0 = q % 2 := ⟨_, rfl⟩
      have eq : q = 4 * P + (2 * b1 + b0) := by omega
      have st := isq_step (p := P) (b := 2 * b1 + b0) hs (by omega)
      rw [← eq] at st
      obtain ⟨K, hK⟩ : ∃ K, K = P - s * s := ⟨_, rfl⟩
      rw [← hK] at rk st
      have KP : K ≤ P := by rw [hK]; exact Nat.sub_le _ _
      have nxt : ∀ (R4 : Nat → Int) (s' K' : Nat), rF R R4 [t, 10, 11] → isq q = s' → q - s' * s' = K' → rg R4 t s' → rg R4 10 K' → am_W z 156 0 0 (am_up h 44 (eI 1920 R4)) [some (.ref 43), some (vI (x : Int)), some (vI (t : Int)), some (vI (n : Int)), some (vI (k : Int))] [] := by
        intro R4 s' K' o4 e1 e2 q1 q2
        refine am_iinc4 hC dX5_rootOf_156 rfl ?_
        refine am_goto hC 28 dX5_rootOf_159 rfl ?_
        rw [show (k : Int) + -1 = (k : Int) - 1 by omega]
        exact ih R4 (by omega) o4 (by rw [← hq, e1]; exact q1) (by rw [← hq, e1, e2]; exact q2)
      refine am_iload4 hC dX5_rootOf_28 ?_
      refine am_if_lt hC 162 dX5_rootOf_30 rfl (by omega) (fun c30 => ?_) (fun c30 => ?_)
      · exact absurd c30 (by omega)
      · refine am_aload0 hC dX5_rootOf_33 ?_
        refine am_bipush hC dX5_rootOf_34 rfl ?_
        refine am_V1_qN hC 5 dX5_rootOf_36 kX5_46 (m_Mtwice (x := 10) _ _ (w'.up (R' := R')) (by decide) rk (by omega)) g0 rfl (Nat.le_of_ble_eq_true rfl) (by decide) (by omega) (by omega) (fun h1' rr => ?_)
        obtain ⟨R1, e1, t1, f1⟩ := rr
        rw [am_up_up] at e1
        subst e1
        have o1 : rF R R1 [t, 10, 11] := o.tr (f1.f (by simp))
        have g01 := G0 R1
        have g11 := am_up_at h 44 (eI 1920 R1)
        have v1 := t1 0 (by decide)
        have x1 := p.on o1 (by simp; omega)
        have s1 := rs.kept f1 (by omega)
        refine am_aload0 hC dX5_rootOf_39 ?_
        refine am_getf hC dX5_rootOf_40 fX5_13 g01 rfl ?_
        refine am_sipush hC dX5_rootOf_43 rfl ?_
        refine am_dup2 hC dX5_rootOf_46 rfl rfl ?_
        refine am_iald hC dX5_rootOf_47 g11 (by omega) (by omega) ?_
        rw [show ((1600 : Int)).toNat = 160 * 10 + 0 from rfl, v1]
        refine am_aload0 hC dX5_rootOf_48 ?_
        refine am_iload1 hC dX5_rootOf_49 ?_
        refine am_iconst hC dX5_rootOf_50 ?_
        refine am_iload4 hC dX5_rootOf_51 ?_
        refine am_imul hC dX5_rootOf_53 ?_
        refine am_iconst hC dX5_rootOf_54 ?_
        refine am_iadd hC dX5_rootOf_55 ?_
        rw [show (2 * (k : Int) + 1) = ((2 * k + 1 : Nat) : Int) by omega]
        refine am_V2_pI hC 5 dX5_rootOf_56 kX5_71 (m_Mbit (x := x) (k := 2 * k + 1) _ _ (w'.up (R' := R1)) (by omega) x1 (by omega)) g01 rfl (Nat.le_of_ble_eq_true rfl) (by decide) (by omega) (by omega) ?_
        rw [hb1, ← hb1']
        refine am_iadd hC dX5_rootOf_59 ?_
        refine am_iast hC dX5_rootOf_60 g11 (by omega) (by omega) ?_
        rw [show ((1600 : Int)).toNat = 160 * 10 from rfl, am_up_up]
        obtain ⟨R2, hR2⟩ : ∃ R2, R2 = am_fu R1 (160 * 10) ((pg (2 * K) 0 : Int) + (b1 : Int)) := ⟨_, rfl⟩
        rw [← hR2]
        have t2 : rg R2 10 (2 * K + b1) := by rw [hR2]; exact t1.inc (by omega) (by omega) rfl
        have f2 : rK R1 R2 10 := by rw [hR2]; exact (rK.rf R1 10).fu (k := 0) (by decide)
        have o2 : rF R R2 [t, 10, 11] := o1.tr (f2.f (by simp))
        have g02 := G0 R2
        have s2 := s1.kept f2 (by omega)
        refine am_aload0 hC dX5_rootOf_61 ?_
        refine am_bipush hC dX5_rootOf_62 rfl ?_
        refine am_V1_qN hC 5 dX5_rootOf_64 kX5_46 (m_Mtwice (x := 10) _ _ (w'.up (R' := R2)) (by decide) t2 (by omega)) g02 rfl (Nat.le_of_ble_eq_true rfl) (by decide) (by omega) (by omega) (fun h1' rr => ?_)
        obtain ⟨R3, e3, t3, f3⟩ := rr
        rw [am_up_up] at e3
        subst e3
        have o3 : rF R R3 [t, 10, 11] := o2.tr (f3.f (by simp))
        have g03 := G0 R3
        have g13 := am_up_at h 44 (eI 1920 R3)
        have v3 := t3 0 (by decide)
        have x3 := p.on o3 (by simp; omega)
        have s3 := s2.kept f3 (by omega)
        refine am_aload0 hC dX5_rootOf_67 ?_
        refine am_getf hC dX5_rootOf_68 fX5_13 g03 rfl ?_
        refine am_sipush hC dX5_rootOf_71 rfl ?_
        refine am_dup2 hC dX5_rootOf_74 rfl rfl ?_
        refine am_iald hC dX5_rootOf_75 g13 (by omega) (by omega) ?_
        rw [show ((1600 : Int)).toNat = 160 * 10 + 0 from rfl, v3]
        refine am_aload0 hC dX5_rootOf_76 ?_
        refine am_iload1 hC dX5_rootOf_77 ?_
        refine am_iconst hC dX5_rootOf_78 ?_
        refine am_iload4 hC dX5_rootOf_79 ?_
        refine am_imul hC dX5_rootOf_81 ?_
        rw [show (2 * (k : Int)) = ((2 * k : Nat) : Int) by omega]
        refine am_V2_pI hC 5 dX5_rootOf_82 kX5_71 (m_Mbit (x := x) (k := 2 * k) _ _ (w'.up (R' := R3)) (by omega) x3 (by omega)) g03 rfl (Nat.le_of_ble_eq_true rfl) (by decide) (by omega) (by omega) ?_
        rw [← hq, ← hb0']
        refine am_iadd hC dX5_rootOf_85 ?_
        refine am_iast hC dX5_rootOf_86 g13 (by omega) (by omega) ?_
        rw [show ((1600 : Int)).toNat = 160 * 10 from rfl, am_up_up]
        obtain ⟨R4, hR4⟩ : ∃ R4, R4 = am_fu R3 (160 * 10) ((pg (2 * (2 * K + b1)) 0 : Int) + (b0 : Int)) := ⟨_, rfl⟩
        rw [← hR4]
        have t4 : rg R4 10 (4 * K + (2 * b1 + b0)) := by rw [show 4 * K + (2 * b1 + b0) = 2 * (2 * K + b1) + b0 by omega, hR4]; exact t3.inc (by omega) (by omega) rfl
        have f4 : rK R3 R4 10 := by rw [hR4]; exact (rK.rf R3 10).fu (k := 0) (by decide)
        have o4 : rF R R4 [t, 10, 11] := o3.tr (f4.f (by simp))
        have g04 := G0 R4
        have s4 := s3.kept f4 (by omega)
        refine am_aload0 hC dX5_rootOf_87 ?_
        refine am_bipush hC dX5_rootOf_88 rfl ?_
        refine am_iload2 hC dX5_rootOf_90 ?_
        refine am_V2_qN hC 5 dX5_rootOf_91 kX5_62 (m_Mcopy (x := 11) (y := t) _ _ (w'.up (R' := R4)) (by decide) (by omega) s4) g04 rfl (Nat.le_of_ble_eq_true rfl) (by decide) (by omega) (by omega) (fun h1' rr => ?_)
        obtain ⟨R5, e5, l5, f5⟩ := rr
        rw [am_up_up] at e5
        subst e5
        have o5 : rF R R5 [t, 10, 11] := o4.tr (f5.f (by simp))
        have g05 := G0 R5
        have s5 := s4.kept f5 (by omega)
        have t5 := t4.kept f5 (by omega)
        refine am_aload0 hC dX5_rootOf_94 ?_
        refine am_bipush hC dX5_rootOf_95 rfl ?_
        refine am_V1_qN hC 5 dX5_rootOf_97 kX5_46 (m_Mtwice (x := 11) _ _ (w'.up (R' := R5)) (by decide) l5 (by omega)) g05 rfl (Nat.le_of_ble_eq_true rfl) (by decide) (by omega) (by omega) (fun h1' rr => ?_)
        obtain ⟨R6, e6, l6, f6⟩ := rr
        rw [am_up_up] at e6
        subst e6
        have o6 : rF R R6 [t, 10, 11] := o5.tr (f6.f (by simp))
        have g06 := G0 R6
        have s6 := s5.kept f6 (by omega)
        have t6 := t5.kept f6 (by omega)
        refine am_aload0 hC dX5_rootOf_100 ?_
        refine am_bipush hC dX5_rootOf_101 rfl ?_
        refine am_V1_qN hC 5 dX5_rootOf_103 kX5_46 (m_Mtwice (x := 11) _ _ (w'.up (R' := R6)) (by decide) l6 (by omega)) g06 rfl (Nat.le_of_ble_eq_true rfl) (by decide) (by omega) (by omega) (fun h1' rr => ?_)
        obtain ⟨R7, e7, l7, f7⟩ := rr
        rw [am_up_up] at e7
        subst e7
        have o7 : rF R R7 [t, 10, 11] := o6.tr (f7.f (by simp))
        have g07 := G0 R7
        have g17 := am_up_at h 44 (eI 1920 R7)
        have v7 := l7 0 (by decide)
        have s7 := s6.kept f7 (by omega)
        have t7 := t6.kept f7 (by omega)
        refine am_aload0 hC dX5_rootOf_106 ?_
        refine am_getf hC dX5_rootOf_107 fX5_13 g07 rfl ?_
        refine am_sipush hC dX5_rootOf_110 rfl ?_
        refine am_dup2 hC dX5_rootOf_113 rfl rfl ?_
        refine am_iald hC dX5_rootOf_114 g17 (by omega) (by omega) ?_
        rw [show ((1760 : Int)).toNat = 160 * 11 + 0 from rfl, v7]
        refine am_iconst hC dX5_rootOf_115 ?_
        refine am_iadd hC dX5_rootOf_116 ?_
        refine am_iast hC dX5_rootOf_117 g17 (by omega) (by omega) ?_
        rw [show ((1760 : Int)).toNat = 160 * 11 from rfl, am_up_up]
        obtain ⟨R8, hR8⟩ : ∃ R8, R8 = am_fu R7 (160 * 11) ((pg (2 * (2 * s)) 0 : Int) + 1) := ⟨_, rfl⟩
        rw [← hR8]
        have l8 : rg R8 11 (4 * s + 1) := by rw [show 4 * s + 1 = 2 * (2 * s) + 1 by omega, hR8]; exact l7.inc (by omega) (by decide) rfl
        have f8 : rK R7 R8 11 := by rw [hR8]; exact (rK.rf R7 11).fu (k := 0) (by decide)
        have o8 : rF R R8 [t, 10, 11] := o7.tr (f8.f (by simp))
        have g08 := G0 R8
        have s8 := s7.kept f8 (by omega)
        have t8 := t7.kept f8 (by omega)
        refine am_aload0 hC dX5_rootOf_118 ?_
        refine am_iload2 hC dX5_rootOf_119 ?_
        refine am_V1_qN hC 5 dX5_rootOf_120 kX5_46 (m_Mtwice (x := t) _ _ (w'.up (R' := R8)) (by omega) s8 (by omega)) g08 rfl (Nat.le_of_ble_eq_true rfl) (by decide) (by omega) (by omega) (fun h1' rr => ?_)
        obtain ⟨R9, e9, s9, f9⟩ := rr
        rw [am_up_up] at e9
        subst e9
        have o9 : rF R R9 [t, 10, 11] := o8.tr (f9.f (by simp))
        have g09 := G0 R9
        have l9 := l8.kept f9 (by omega)
        have t9 := t8.kept f9 (by omega)
        have cs := cmpN_s (4 * K + (2 * b1 + b0)) (4 * s + 1)
        refine am_aload0 hC dX5_rootOf_123 ?_
        refine am_bipush hC dX5_rootOf_124 rfl ?_
        refine am_bipush hC dX5_rootOf_126 rfl ?_
        refine am_V2_pI hC 5 dX5_rootOf_128 kX5_50 (m_Mcompare (x := 10) (y := 11) _ _ (w'.up (R' := R9)) (by decide) (by decide) t9 l9 (by omega) (by omega)) g09 rfl (Nat.le_of_ble_eq_true rfl) (by decide) (by omega) (by omega) ?_
        refine am_if_lt hC 156 dX5_rootOf_131 rfl (by omega) (fun c131 => ?_) (fun c131 => ?_)
        · first
            | exact nxt R9 (2 * s) (4 * K + (2 * b1 + b0)) o9 (st.2 (by omega)).1 (st.2 (by omega)).2 s9 t9
            | exact nxt _ (2 * s + 1) (4 * K + (2 * b1 + b0) - (4 * s + 1)) (o10.tr (rK.f ((rK.rf R10 t).fu (k := 0) (by decide)) (by simp))) (st.1 (by omega)).1 (st.1 (by omega)).2 (s10.inc (by omega) (by decide) rfl) (t10.kept ((rK.rf R10 t).fu (k := 0) (by decide)) (by omega))
        · refine am_aload0 hC dX5_rootOf_134 ?_
          refine am_bipush hC dX5_rootOf_135 rfl ?_
          refine am_bipush hC dX5_rootOf_137 rfl ?_
          refine am_V2_qN hC 5 dX5_rootOf_139 kX5_54 (m_Mminus (x := 10) (y := 11) _ _ (w'.up (R' := R9)) (by decide) (by decide) (by decide) t9 l9 (by omega) (by omega)) g09 rfl (Nat.le_of_ble_eq_true rfl) (by decide) (by omega) (by omega) (fun h1' rr => ?_)
          obtain ⟨R10, e10, t10, f10⟩ := rr
          rw [am_up_up] at e10
          subst e10
          have o10 : rF R R10 [t, 10, 11] := o9.tr (f10.f (by simp))
          have g010 := G0 R10
          have g110 := am_up_at h 44 (eI 1920 R10)
          have s10 := s9.kept f10 (by omega)
          have v10 := s10 0 (by decide)
          rw [Nat.add_zero] at v10
          refine am_aload0 hC dX5_rootOf_142 ?_
          refine am_getf hC dX5_rootOf_143 fX5_13 g010 rfl ?_
          refine am_sipush hC dX5_rootOf_146 rfl ?_
          refine am_iload2 hC dX5_rootOf_149 ?_
          refine am_imul hC dX5_rootOf_150 ?_
          refine am_dup2 hC dX5_rootOf_151 rfl rfl ?_
          rw [show (160 * (t : Int)) = ((160 * t : Nat) : Int) by omega]
          refine am_iald hC dX5_rootOf_152 g110 (by omega) (by omega) ?_
          rw [Int.toNat_natCast, v10]
          refine am_iconst hC dX5_rootOf_153 ?_
          refine am_iadd hC dX5_rootOf_154 ?_
          refine am_iast hC dX5_rootOf_155 g110 (by omega) (by omega) ?_
          rw [Int.toNat_natCast, am_up_up]
          first
            | exact nxt R9 (2 * s) (4 * K + (2 * b1 + b0)) o9 (st.2 (by omega)).1 (st.2 (by omega)).2 s9 t9
            | exact nxt _ (2 * s + 1) (4 * K + (2 * b1 + b0) - (4 * s + 1)) (o10.tr (rK.f ((rK.rf R10 t).fu (k := 0) (by decide)) (by simp))) (st.1 (by omega)).1 (st.1 (by omega)).2 (s10.inc (by omega) (by decide) rfl) (t10.kept ((rK.rf R10 t).fu (k := 0) (by decide)) (by omega))
  refine am_aload0 hC dX5_rootOf_0 ?_
  refine am_iload2 hC dX5_rootOf_1 ?_
  refine am_lconst0 hC dX5_rootOf_2 ?_
  refine am_V2_qN hC 5 dX5_rootOf_3 kX5_36 (m_Mset (x := t) (v := 0) _ _ w' (by omega)) h0 rfl (Nat.le_of_ble_eq_true rfl) (by decide) (by omega) (by omega) (fun h1' rr => ?_)
  obtain ⟨R1, rfl, r1, f1⟩ := rr
  have g01 := G0 R1
  refine am_aload0 hC dX5_rootOf_6 ?_
  refine am_bipush hC dX5_rootOf_7 rfl ?_
  refine am_lconst0 hC dX5_rootOf_9 ?_
  refine am_V2_qN hC 5 dX5_rootOf_10 kX5_36 (m_Mset (x := 10) (v := 0) _ _ (w'.up (R' := R1)) (by decide)) g01 rfl (Nat.le_of_ble_eq_true rfl) (by decide) (by omega) (by omega) (fun h1' rr => ?_)
  obtain ⟨R2, e2, r2, f2⟩ := rr
  rw [am_up_up] at e2
  subst e2
  have g02 := G0 R2
  have x2 : rg R2 x a := (p.kept f1 xt).kept f2 (by omega)
  have q2 : rg R2 t 0 := r1.kept f2 (by omega)
  have az : a / 2 ^ (2 * n) = 0 := Nat.div_eq_of_lt (Nat.lt_of_lt_of_le (bl_le.mp (Nat.le_refl _)) (Nat.pow_le_pow_right (by decide) (by omega)))
  refine am_aload0 hC dX5_rootOf_13 ?_
  refine am_iload1 hC dX5_rootOf_14 ?_
  refine am_V1_pI hC 5 dX5_rootOf_15 kX5_42 (m_Msize _ _ (w'.up (R' := R2)) (by omega) x2 (by omega)) g02 rfl (Nat.le_of_ble_eq_true rfl) (by decide) (by omega) (by omega) ?_
  refine am_iconst hC dX5_rootOf_18 ?_
  refine am_iadd hC dX5_rootOf_19 ?_
  refine am_iconst hC dX5_rootOf_20 ?_
  refine am_idiv hC dX5_rootOf_21 (by omega) (by omega) (by omega) ?_
  rw [show ((bl a : Int) + 1).tdiv 2 = (n : Int) by rw [Int.tdiv_eq_ediv_of_nonneg (by omega)]; omega]
  refine am_istore3 hC dX5_rootOf_22 rfl ?_
  refine am_iload3 hC dX5_rootOf_23 ?_
  refine am_iconst hC dX5_rootOf_24 ?_
  refine am_isub hC dX5_rootOf_25 ?_
  refine am_istore4 hC dX5_rootOf_26 rfl ?_
  exact loop n R2 (Nat.le_refl _) ((f1.f (by simp)).tr (f2.f (by simp))) (by rw [az, isq_z]; exact q2) (by rw [az, Nat.zero_sub]; exact r2)

/-! make, from its start -/
theorem only.r {h : am_H} {R R' : Nat → Int} : only h (am_up h 44 (eI 1920 R')) K45 := only_up (by simp)
theorem m_Mmake (l : Launch) (g : am_G) {h : am_H} {s : aS} {th sd : Int} {wd x y a b : Nat} {R : Nat → Int} (w : eS h s th wd R) (hn : s.1 ≤ 150) (hx : x < 6) (hy : y < 6) (p : rg R x a) (q : rg R y b) (la : a < 32768 ^ wd) (lb : b < 32768 ^ wd) (hb : 0 < b) :
    am_Met l g yX5_make (am_W1 yX5_make cX5_make 5 (some .int)) 3 0 0 [.ref 43, vI sd, vI (x : Int), vI (y : Int)] h (qI fun v h1 => v = (aPut s sd a b).1 ∧ (∃ R', eS h1 (aPut s sd a b).2 th wd R' ∧ rF R R' [6, 7, 8, 9]) ∧ only h h1 K45) := by
  have h0 := w.1
  obtain ⟨G, hG⟩ : ∃ G, G = Nat.gcd a b := ⟨_, rfl⟩
  have gp : 0 < G := by rw [hG]; exact Nat.gcd_pos_of_pos_right _ hb
  have lG : G < 32768 ^ wd := Nat.lt_of_le_of_lt (by rw [hG]; exact Nat.le_of_dvd hb (Nat.gcd_dvd_right a b)) lb
  have l1 : a / G < 32768 ^ wd := Nat.lt_of_le_of_lt (Nat.div_le_self _ _) la
  have l2 : b / G < 32768 ^ wd := Nat.lt_of_le_of_lt (Nat.div_le_self _ _) lb
  refine am_mk [some (.ref 43), some (vI sd), some (vI (x : Int)), some (vI (y : Int)), none] 1 rfl rfl (by decide +kernel) (fun z hl hg hC hT _ => ?_)
  refine am_aload0 hC dX5_make_0 ?_
  refine am_bipush hC dX5_make_1 rfl ?_
  refine am_iload2 hC dX5_make_3 ?_
  refine am_V2_qN hC 5 dX5_make_4 kX5_62 (m_Mcopy (x := 6) _ _ w.x (by decide) (by omega) p) h0 rfl (Nat.le_of_ble_eq_true rfl) (by decide) (by omega) (by omega) (fun h1' rr => ?_)
  obtain ⟨R1, rfl, r1, f1⟩ := rr
  have v1 := w.r (R' := R1)
  have q1 := q.kept f1 (by omega)
  have p1 := p.kept f1 (by omega)
  have k1 := v1.1
  refine am_aload0 hC dX5_make_7 ?_
  refine am_bipush hC dX5_make_8 rfl ?_
  refine am_iload3 hC dX5_make_10 ?_
  refine am_V2_qN hC 5 dX5_make_11 kX5_62 (m_Mcopy (x := 7) _ _ v1.x (by decide) (by omega) q1) k1 rfl (Nat.le_of_ble_eq_true rfl) (by decide) (by omega) (by omega) (fun h1' rr => ?_)
  obtain ⟨R2, e2, r2, f2⟩ := rr
  rw [am_up_up] at e2
  subst e2
  have v2 := w.r (R' := R2)
  have q2 := q1.kept f2 (by omega)
  have p2 := p1.kept f2 (by omega)
  have r12 := r1.kept f2 (by decide)
  have k2 := v2.1
  refine am_aload0 hC dX5_make_14 ?_
  refine am_bipush hC dX5_make_15 rfl ?_
  refine am_bipush hC dX5_make_17 rfl ?_
  refine am_V2_qN hC 5 dX5_make_19 kX5_77 (m_Mdivisor (x := 6) (y := 7) _ _ v2.x (by decide) (by decide) (by decide) r12 r2 la lb hb) k2 rfl (Nat.le_of_ble_eq_true rfl) (by decide) (by omega) (by omega) (fun h1' rr => ?_)
  obtain ⟨R3, e3, r3, f3⟩ := rr
  rw [am_up_up] at e3
  subst e3
  rw [← hG] at r3
  have v3 := w.r (R' := R3)
  have q3 := q2.on f3 (by simp; omega)
  have p3 := p2.on f3 (by simp; omega)
  have k3 := v3.1
  refine am_aload0 hC dX5_make_22 ?_
  refine am_iload2 hC dX5_make_23 ?_
  refine am_bipush hC dX5_make_24 rfl ?_
  refine am_bipush hC dX5_make_26 rfl ?_
  refine am_bipush hC dX5_make_28 rfl ?_
  refine am_V4_qN hC 5 dX5_make_30 kX5_80 (m_Mdivide (x := x) (y := 6) (q := 8) (t := 9) _ _ v3.x (by omega) (by decide) (by decide) (by decide) (by omega) (by omega) (by decide) (by decide) (by decide) p3 r3 la lG gp) k3 rfl (Nat.le_of_ble_eq_true rfl) (by decide) (by omega) (by omega) (fun h1' rr => ?_)
  obtain ⟨R4, e4, r4, -, f4⟩ := rr
  rw [am_up_up] at e4
  subst e4
  have v4 := w.r (R' := R4)
  have q4 := q3.on f4 (by simp; omega)
  have r34 := r3.on f4 (by decide)
  have k4 := v4.1
  refine am_aload0 hC dX5_make_33 ?_
  refine am_iload3 hC dX5_make_34 ?_
  refine am_bipush hC dX5_make_35 rfl ?_
  refine am_bipush hC dX5_make_37 rfl ?_
  refine am_bipush hC dX5_make_39 rfl ?_
  refine am_V4_qN hC 5 dX5_make_41 kX5_80 (m_Mdivide (x := y) (y := 6) (q := 7) (t := 9) _ _ v4.x (by omega) (by decide) (by decide) (by decide) (by omega) (by omega) (by decide) (by decide) (by decide) q4 r34 lb lG gp) k4 rfl (Nat.le_of_ble_eq_true rfl) (by decide) (by omega) (by omega) (fun h1' rr => ?_)
  obtain ⟨R5, e5, r5, -, f5⟩ := rr
  rw [am_up_up] at e5
  subst e5
  have v5 := w.r (R' := R5)
  have r45 := r4.on f5 (by decide)
  have k5 := v5.1
  have fF : rF R R5 [6, 7, 8, 9] := (f1.f (by simp)).tr ((f2.f (by simp)).tr ((f3.wk (by simp)).tr ((f4.wk (by simp)).tr (f5.wk (by simp)))))
  have bb1 : bl (a / G) ≤ 15 * wd := bl_le.mpr (by rw [← B15]; exact l1)
  have bb2 : bl (b / G) ≤ 15 * wd := bl_le.mpr (by rw [← B15]; exact l2)
  have wd160 := v5.2.2.1.2
  refine am_aload0 hC dX5_make_44 ?_
  refine am_bipush hC dX5_make_45 rfl ?_
  refine am_V1_pI hC 5 dX5_make_47 kX5_42 (m_Msize (x := 8) _ _ v5.x (by decide) r45 l1) k5 rfl (Nat.le_of_ble_eq_true rfl) (by decide) (by omega) (by omega) ?_
  refine am_sipush hC dX5_make_50 rfl ?_
  refine am_icmp_gt hC 78 dX5_make_53 rfl (by omega) (by omega) (fun c53 => ?_) (fun c53 => ?_)
  · have bad : 150 ≤ s.1 ∨ 800 < bl (a / Nat.gcd a b) ∨ 800 < bl (b / Nat.gcd a b) := by rw [← hG]; omega
    refine am_iconst hC dX5_make_78 ?_
    exact am_iret hC hT dX5_make_79 (by omega) (by omega) ⟨_, rfl, by rw [aPut_n bad], ⟨R5, by rw [aPut_n bad]; exact v5, fF⟩, only.r (R := R)⟩
  · refine am_aload0 hC dX5_make_56 ?_
    refine am_bipush hC dX5_make_57 rfl ?_
    refine am_V1_pI hC 5 dX5_make_59 kX5_42 (m_Msize (x := 7) _ _ v5.x (by decide) r5 l2) k5 rfl (Nat.le_of_ble_eq_true rfl) (by decide) (by omega) (by omega) ?_
    refine am_sipush hC dX5_make_62 rfl ?_
    refine am_icmp_gt hC 78 dX5_make_65 rfl (by omega) (by omega) (fun c65 => ?_) (fun c65 => ?_)
    · have bad : 150 ≤ s.1 ∨ 800 < bl (a / Nat.gcd a b) ∨ 800 < bl (b / Nat.gcd a b) := by rw [← hG]; omega
      refine am_iconst hC dX5_make_78 ?_
      exact am_iret hC hT dX5_make_79 (by omega) (by omega) ⟨_, rfl, by rw [aPut_n bad], ⟨R5, by rw [aPut_n bad]; exact v5, fF⟩, only.r (R := R)⟩
    · refine am_aload0 hC dX5_make_68 ?_
      refine am_getf hC dX5_make_69 fX5_84 k5 rfl ?_
      refine am_sipush hC dX5_make_72 rfl ?_
      refine am_icmp_ne hC 80 dX5_make_75 rfl (by omega) (by omega) (fun c75 => ?_) (fun c75 => ?_)
      · refine am_aload0 hC dX5_make_80 ?_
        refine am_getf hC dX5_make_81 fX5_17 k5 rfl ?_
        refine am_aload0 hC dX5_make_84 ?_
        refine am_getf hC dX5_make_85 fX5_84 k5 rfl ?_
        refine am_aload0 hC dX5_make_88 ?_
        refine am_bipush hC dX5_make_89 rfl ?_
        have good : ¬ (150 ≤ s.1 ∨ 800 < bl (a / Nat.gcd a b) ∨ 800 < bl (b / Nat.gcd a b)) := by rw [← hG]; omega
        have e01 : a / G = 0 ↔ a = 0 := by rw [hG]; exact gcd_div0 hb
        have fin : ∀ sv : Int, sv = (if a = 0 then 0 else sd) → am_W z 102 0 0 (am_up h 44 (eI 1920 R5)) [some (.ref 43), some (vI sd), some (vI (x : Int)), some (vI (y : Int)), none] [vI sv, vI (s.1 : Int), .ref 45] := fun sv hsv => make_fin hC hT v5 (by omega) r45 r5 (fun h1 x1 x2 => by
          rw [aPut_y good]
          exact ⟨rfl, ⟨R5, by rw [← hG, ← hsv]; exact x1, fF⟩, (only.r (R := R)).tr x2⟩)
        refine am_V1_pI hC 5 dX5_make_91 kX5_58 (m_MisZero (x := 8) _ _ v5.x (by decide) r45 l1) k5 rfl (Nat.le_of_ble_eq_true rfl) (by decide) (by omega) (by omega) ?_
        have e02 : (if a / G = 0 then (1 : Int) else 0) = 0 ∨ (if a / G = 0 then (1 : Int) else 0) = 1 := by split <;> simp
        refine am_if_eq hC 101 dX5_make_94 rfl (by omega) (fun c94 => ?_) (fun c94 => ?_)
        · refine am_iload1 hC dX5_make_101 ?_
          first
            | exact fin 0 (by rw [if_pos (e01.mp (by by_cases c : a / G = 0 <;> simp_all))])
            | exact fin sd (by rw [if_neg (fun c => absurd (e01.mpr c) (by by_cases c2 : a / G = 0 <;> simp_all))])
        · refine am_iconst hC dX5_make_97 ?_
          refine am_goto hC 102 dX5_make_98 rfl ?_
          first
            | exact fin 0 (by rw [if_pos (e01.mp (by by_cases c : a / G = 0 <;> simp_all))])
            | exact fin sd (by rw [if_neg (fun c => absurd (e01.mpr c) (by by_cases c2 : a / G = 0 <;> simp_all))])
      · have bad : 150 ≤ s.1 ∨ 800 < bl (a / Nat.gcd a b) ∨ 800 < bl (b / Nat.gcd a b) := by rw [← hG]; omega
        refine am_iconst hC dX5_make_78 ?_
        exact am_iret hC hT dX5_make_79 (by omega) (by omega) ⟨_, rfl, by rw [aPut_n bad], ⟨R5, by rw [aPut_n bad]; exact v5, fF⟩, only.r (R := R)⟩

/-! add, order, sign, bits -/
theorem m_add (l : Launch) (g : am_G) {h : am_H} {s : aS} {i j : Int} (hst : l.stackTraces = false) (w : kS h s) (h47 : 51 ≤ h.1) (ok : aOK s) (hi : IR i) (hj : IR j) :
    am_MetX l g yX4_add (am_W1 yX4_add cX4_add 5 (some .int)) 8 7 131 [.ref 0, vI i, vI j] h (qI fun v h1 => okV i ∧ okV j ∧ okR h s (aAdd s i.toNat j.toNat) K39 v h1) (xK h s (fun E => E = am_AIO ∧ ¬ (okV i ∧ okV j))) := by
  have h0 := w.1
  refine am_mkX [some (.ref 0), some (vI i), some (vI j), none, none] 2 hst rfl rfl (by decide +kernel) (fun x hl hg hC hT hTX => ?_)
  refine am_aload0 hC dX4_add_0 ?_
  refine am_iload1 hC dX4_add_1 ?_
  refine am_xV1_qA hC 4 hTX dX4_add_2 kX4_87 (m_fractionAt _ _ (by rw [hl]; exact hst) w hi) h0 rfl (Nat.le_of_ble_eq_true rfl) (by decide) (by omega) (by omega) (xK.wk (gx.rf _ _) (fun E q => ⟨q.1, fun c => q.2 c.1⟩)) (fun r1 hx1 q => ?_)
  obtain ⟨e, oi, r1a, r1b, F⟩ := q
  rw [e]
  clear e hx1
  refine am_astore3 hC dX4_add_5 rfl ?_
  refine am_aload0 hC dX4_add_6 ?_
  refine am_iload2 hC dX4_add_7 ?_
  refine am_xV1_qA hC 4 hTX dX4_add_8 kX4_87 (m_fractionAt _ _ (by rw [hl]; exact hst) w hj) h0 rfl (Nat.le_of_ble_eq_true rfl) (by decide) (by omega) (by omega) (xK.wk (gx.rf _ _) (fun E q => ⟨q.1, fun c => q.2 c.2⟩)) (fun r2 hx2 q => ?_)
  obtain ⟨e, oj, r2a, r2b, F'⟩ := q
  rw [e]
  clear e hx2
  obtain ⟨u, hu⟩ : ∃ u, u = s.2.1 i.toNat := ⟨_, rfl⟩
  obtain ⟨v, hv⟩ : ∃ v, v = s.2.1 j.toNat := ⟨_, rfl⟩
  have ku : vOK u := by rw [hu]; exact ok.2.1 _ (by have := oi.2; have := oi.1; omega)
  have kv : vOK v := by rw [hv]; exact ok.2.1 _ (by have := oj.2; have := oj.1; omega)
  rw [← hu] at F
  rw [← hv] at F'
  obtain ⟨ku1, ku2, ku3, ku4, ku5⟩ := ku
  obtain ⟨kv1, kv2, kv3, kv4, kv5⟩ := kv
  have cu := cap800 ku4
  have cu' := cap800 ku5
  have cv := cap800 kv4
  have cv' := cap800 kv5
  have sg := sg3 ku1 kv1
  have F1 := F.1
  have F1' := F'.1
  have tc1 := w.2.2.2.2.2.2.1
  have ⟨tn1, te1⟩ := tc1.o
  refine am_astore4 hC dX4_add_11 rfl ?_
  refine am_aload0 hC dX4_add_13 ?_
  refine am_getf hC dX4_add_14 fX4_49 h0 rfl ?_
  refine am_aload3 hC dX4_add_17 ?_
  refine am_getf hC dX4_add_18 fX4_91 F1 rfl ?_
  refine am_aload4 hC dX4_add_21 ?_
  refine am_getf hC dX4_add_23 fX4_94 F1' rfl ?_
  refine am_V2_qN hC 3 dX4_add_26 kX4_97 (m_setProduct _ _ tc1 F.2.1 F'.2.2 (by omega) (by omega) (by omega)) te1 rfl (Nat.le_of_ble_eq_true rfl) (by decide) (by omega) (by omega) (fun h1 r => ?_)
  obtain ⟨w1, o1⟩ := r
  have v1 := w.w (by omega) o1 w1.cc (by omega)
  have k1 := v1.1
  have H1 : h1.1 = h.1 := o1.1
  have Fa1 := F.on o1 (by intro j _ _; simp; omega)
  have Fb1 := F'.on o1 (by intro j _ _; simp; omega)
  have fa1 := Fa1.1
  have fb1 := Fb1.1
  have tc2 := v1.2.2.2.2.2.2.2.1
  have ⟨tn2, te2⟩ := tc2.o
  refine am_aload0 hC dX4_add_29 ?_
  refine am_getf hC dX4_add_30 fX4_52 k1 rfl ?_
  refine am_aload4 hC dX4_add_33 ?_
  refine am_getf hC dX4_add_35 fX4_91 fb1 rfl ?_
  refine am_aload3 hC dX4_add_38 ?_
  refine am_getf hC dX4_add_39 fX4_94 fa1 rfl ?_
  refine am_V2_qN hC 3 dX4_add_42 kX4_97 (m_setProduct _ _ tc2 Fb1.2.1 Fa1.2.2 (by omega) (by omega) (by omega)) te2 rfl (Nat.le_of_ble_eq_true rfl) (by decide) (by omega) (by omega) (fun h2 r => ?_)
  obtain ⟨w2, o2⟩ := r
  have v2 := v1.w (by omega) o2 w2.cc (by omega)
  have k2 := v2.1
  have H2 : h2.1 = h.1 := o2.1.trans H1
  have Fa2 := Fa1.on o2 (by intro j _ _; simp; omega)
  have Fb2 := Fb1.on o2 (by intro j _ _; simp; omega)
  have fa2 := Fa2.1
  have fb2 := Fb2.1
  have tc3 := v2.2.2.2.2.2.1
  have ⟨tn3, te3⟩ := tc3.o
  refine am_aload0 hC dX4_add_45 ?_
  refine am_getf hC dX4_add_46 fX4_46 k2 rfl ?_
  refine am_aload3 hC dX4_add_49 ?_
  refine am_getf hC dX4_add_50 fX4_94 fa2 rfl ?_
  refine am_aload4 hC dX4_add_53 ?_
  refine am_getf hC dX4_add_55 fX4_94 fb2 rfl ?_
  refine am_V2_qN hC 3 dX4_add_58 kX4_97 (m_setProduct _ _ tc3 Fa2.2.2 Fb2.2.2 (by omega) (by omega) (by omega)) te3 rfl (Nat.le_of_ble_eq_true rfl) (by decide) (by omega) (by omega) (fun h3 r => ?_)
  obtain ⟨w3, o3⟩ := r
  have v3 := v2.w (by omega) o3 w3.cc (by omega)
  have k3 := v3.1
  have H3 : h3.1 = h.1 := o3.1.trans H2
  have Fa3 := Fa2.on o3 (by intro j _ _; simp; omega)
  have Fb3 := Fb2.on o3 (by intro j _ _; simp; omega)
  have fa3 := Fa3.1
  have fb3 := Fb3.1
  have w13 := (w1.kept o2 (by simp) (by simp)).kept o3 (by simp) (by simp)
  have w23 := w2.kept o3 (by simp) (by simp)
  have G3 : gx h h3 K39 := (o1.gx.wk (by simp)).tr ((o2.gx.wk (by simp)).tr (o3.gx.wk (by simp)))
  have t4 := v3.2.2.2.2.1
  have ⟨t4n, t4e⟩ := t4.o
  have z1 := s52 ku4 kv5
  have z2 := s52 kv4 ku5
  have z3 := s52 ku5 kv5
  have z4 := s53 ku4 kv5 kv4 ku5
  have z5 := szn_mono (Nat.sub_le (u.2.1 * v.2.2) (v.2.1 * u.2.2))
  have z6 := szn_mono (Nat.sub_le (v.2.1 * u.2.2) (u.2.1 * v.2.2))
  have pd := Nat.mul_pos ku3 kv3
  obtain ⟨L, hL⟩ : ∃ L, L = u.2.1 * v.2.2 := ⟨_, rfl⟩
  obtain ⟨R, hR⟩ : ∃ R, R = v.2.1 * u.2.2 := ⟨_, rfl⟩
  obtain ⟨D, hD⟩ : ∃ D, D = u.2.2 * v.2.2 := ⟨_, rfl⟩
  obtain ⟨su, hsu⟩ : ∃ su, su = u.1 := ⟨_, rfl⟩
  obtain ⟨sv, hsv⟩ : ∃ sv, sv = v.1 := ⟨_, rfl⟩
  rw [← hL] at w13 z1 z4 z5 z6
  rw [← hR] at w23 z2 z4 z5 z6
  rw [← hD] at w3 z3 pd
  have aA : aAdd s i.toNat j.toNat = if 0 ≤ su * sv then aPut s (if su ≠ 0 then su else sv) (L + R) D else if R ≤ L then aPut s su (L - R) D else aPut s sv (R - L) D := by rw [aAdd, ← hu, ← hv, hL, hR, hD, hsu, hsv]
  rw [← hsu, ← hsv] at sg
  rw [← hsu] at ku1 fa3
  rw [← hsv] at kv1 fb3
  refine am_aload3 hC dX4_add_61 ?_
  refine am_getf hC dX4_add_62 fX4_101 fa3 rfl ?_
  refine am_aload4 hC dX4_add_65 ?_
  refine am_getf hC dX4_add_67 fX4_101 fb3 rfl ?_
  refine am_imul hC dX4_add_70 ?_
  refine am_if_lt hC 113 dX4_add_71 rfl (by omega) (fun c71 => ?_) (fun c71 => ?_)
  · refine am_aload0 hC dX4_add_113 ?_
    refine am_getf hC dX4_add_114 fX4_49 k3 rfl ?_
    refine am_aload0 hC dX4_add_117 ?_
    refine am_getf hC dX4_add_118 fX4_52 k3 rfl ?_
    refine am_V1_pI hC 3 dX4_add_121 kX4_108 (m_compareWith _ _ w13 w23) w13.o rfl (Nat.le_of_ble_eq_true rfl) (by decide) (by omega) (by omega) ?_
    have cr := cmpN_r L R
    have cl : cmpN L R < 0 ↔ L < R := by
      constructor
      · intro c; rcases Nat.lt_or_ge L R with q | q; · exact q
        · rcases Nat.eq_or_lt_of_le q with q | q; · rw [q, cmpN_eq] at c; omega
          · rw [cmpN_gt q] at c; omega
      · intro c; rw [cmpN_lt c]; omega
    refine am_if_lt hC 151 dX4_add_124 rfl (by omega) (fun c124 => ?_) (fun c124 => ?_)
    · refine am_aload0 hC dX4_add_151 ?_
      refine am_getf hC dX4_add_152 fX4_43 k3 rfl ?_
      refine am_aload0 hC dX4_add_155 ?_
      refine am_getf hC dX4_add_156 fX4_52 k3 rfl ?_
      refine am_aload0 hC dX4_add_159 ?_
      refine am_getf hC dX4_add_160 fX4_49 k3 rfl ?_
      refine am_V2_qN hC 3 dX4_add_163 kX4_112 (m_setDifference _ _ t4 w23 w13 (by omega) (by omega)) t4e rfl (Nat.le_of_ble_eq_true rfl) (by decide) (by omega) (by omega) (fun h4 r => ?_)
      obtain ⟨w4, o4⟩ := r
      have v4 := v3.w (by omega) o4 w4.cc (by omega)
      have k4 := v4.1
      have H4 : h4.1 = h.1 := o4.1.trans H3
      have w34 := w3.kept o4 (by simp) (by simp)
      have fb4 := (Fb3.on o4 (by intro j _ _; simp; omega)).1
      rw [← hsv] at fb4
      have G4 : gx h h4 K39 := G3.tr (o4.gx.wk (by simp))
      refine am_aload0 hC dX4_add_166 ?_
      refine am_aload4 hC dX4_add_167 ?_
      refine am_getf hC dX4_add_169 fX4_101 fb4 rfl ?_
      refine am_V1_qI hC 4 dX4_add_172 kX4_83 (m_putNew _ _ v4 (by omega) ok.1 w4 w34 pd (by omega) (by omega)) k4 rfl (Nat.le_of_ble_eq_true rfl) (by decide) (by omega) (by omega) (fun rv h5 r => ?_)
      obtain ⟨rfl, v5, g5⟩ := r
      exact am_iret hC hT dX4_add_175 (by omega) (by omega) ⟨_, rfl, oi, oj, by rw [aA, if_neg (by omega), if_neg (by omega)], by rw [aA, if_neg (by omega), if_neg (by omega)]; exact v5, G4.tr (g5.wk kP39)⟩
    · refine am_aload0 hC dX4_add_127 ?_
      refine am_getf hC dX4_add_128 fX4_43 k3 rfl ?_
      refine am_aload0 hC dX4_add_131 ?_
      refine am_getf hC dX4_add_132 fX4_49 k3 rfl ?_
      refine am_aload0 hC dX4_add_135 ?_
      refine am_getf hC dX4_add_136 fX4_52 k3 rfl ?_
      refine am_V2_qN hC 3 dX4_add_139 kX4_112 (m_setDifference _ _ t4 w13 w23 (by omega) (by omega)) t4e rfl (Nat.le_of_ble_eq_true rfl) (by decide) (by omega) (by omega) (fun h4 r => ?_)
      obtain ⟨w4, o4⟩ := r
      have v4 := v3.w (by omega) o4 w4.cc (by omega)
      have k4 := v4.1
      have H4 : h4.1 = h.1 := o4.1.trans H3
      have w34 := w3.kept o4 (by simp) (by simp)
      have fa4 := (Fa3.on o4 (by intro j _ _; simp; omega)).1
      rw [← hsu] at fa4
      have G4 : gx h h4 K39 := G3.tr (o4.gx.wk (by simp))
      refine am_aload0 hC dX4_add_142 ?_
      refine am_aload3 hC dX4_add_143 ?_
      refine am_getf hC dX4_add_144 fX4_101 fa4 rfl ?_
      refine am_V1_qI hC 4 dX4_add_147 kX4_83 (m_putNew _ _ v4 (by omega) ok.1 w4 w34 pd (by omega) (by omega)) k4 rfl (Nat.le_of_ble_eq_true rfl) (by decide) (by omega) (by omega) (fun rv h5 r => ?_)
      obtain ⟨rfl, v5, g5⟩ := r
      exact am_iret hC hT dX4_add_150 (by omega) (by omega) ⟨_, rfl, oi, oj, by rw [aA, if_neg (by omega), if_pos (by omega)], by rw [aA, if_neg (by omega), if_pos (by omega)]; exact v5, G4.tr (g5.wk kP39)⟩
  · refine am_aload0 hC dX4_add_74 ?_
    refine am_getf hC dX4_add_75 fX4_43 k3 rfl ?_
    refine am_aload0 hC dX4_add_78 ?_
    refine am_getf hC dX4_add_79 fX4_49 k3 rfl ?_
    refine am_aload0 hC dX4_add_82 ?_
    refine am_getf hC dX4_add_83 fX4_52 k3 rfl ?_
    refine am_V2_qN hC 3 dX4_add_86 kX4_105 (m_setSum _ _ t4 w13 w23 (by omega)) t4e rfl (Nat.le_of_ble_eq_true rfl) (by decide) (by omega) (by omega) (fun h4 r => ?_)
    obtain ⟨w4, o4⟩ := r
    have v4 := v3.w (by omega) o4 w4.cc (by omega)
    have k4 := v4.1
    have H4 : h4.1 = h.1 := o4.1.trans H3
    have w34 := w3.kept o4 (by simp) (by simp)
    have fa4 := (Fa3.on o4 (by intro j _ _; simp; omega)).1
    have fb4 := (Fb3.on o4 (by intro j _ _; simp; omega)).1
    rw [← hsu] at fa4
    rw [← hsv] at fb4
    have G4 : gx h h4 K39 := G3.tr (o4.gx.wk (by simp))
    refine am_aload0 hC dX4_add_89 ?_
    refine am_aload3 hC dX4_add_90 ?_
    refine am_getf hC dX4_add_91 fX4_101 fa4 rfl ?_
    refine am_if_eq hC 104 dX4_add_94 rfl (by omega) (fun c94 => ?_) (fun c94 => ?_)
    · refine am_aload4 hC dX4_add_104 ?_
      refine am_getf hC dX4_add_106 fX4_101 fb4 rfl ?_
      refine am_V1_qI hC 4 dX4_add_109 kX4_83 (m_putNew _ _ v4 (by omega) ok.1 w4 w34 pd (by omega) (by omega)) k4 rfl (Nat.le_of_ble_eq_true rfl) (by decide) (by omega) (by omega) (fun rv h5 r => ?_)
      obtain ⟨rfl, v5, g5⟩ := r
      first
        | exact am_iret hC hT dX4_add_112 (by omega) (by omega) ⟨_, rfl, oi, oj, by rw [aA, if_pos (by omega), if_neg (by omega)], by rw [aA, if_pos (by omega), if_neg (by omega)]; exact v5, G4.tr (g5.wk kP39)⟩
        | exact am_iret hC hT dX4_add_112 (by omega) (by omega) ⟨_, rfl, oi, oj, by rw [aA, if_pos (by omega), if_pos (by omega)], by rw [aA, if_pos (by omega), if_pos (by omega)]; exact v5, G4.tr (g5.wk kP39)⟩
    · refine am_aload3 hC dX4_add_97 ?_
      refine am_getf hC dX4_add_98 fX4_101 fa4 rfl ?_
      refine am_goto hC 109 dX4_add_101 rfl ?_
      refine am_V1_qI hC 4 dX4_add_109 kX4_83 (m_putNew _ _ v4 (by omega) ok.1 w4 w34 pd (by omega) (by omega)) k4 rfl (Nat.le_of_ble_eq_true rfl) (by decide) (by omega) (by omega) (fun rv h5 r => ?_)
      obtain ⟨rfl, v5, g5⟩ := r
      first
        | exact am_iret hC hT dX4_add_112 (by omega) (by omega) ⟨_, rfl, oi, oj, by rw [aA, if_pos (by omega), if_neg (by omega)], by rw [aA, if_pos (by omega), if_neg (by omega)]; exact v5, G4.tr (g5.wk kP39)⟩
        | exact am_iret hC hT dX4_add_112 (by omega) (by omega) ⟨_, rfl, oi, oj, by rw [aA, if_pos (by omega), if_pos (by omega)], by rw [aA, if_pos (by omega), if_pos (by omega)]; exact v5, G4.tr (g5.wk kP39)⟩
theorem m_order (l : Launch) (g : am_G) {h : am_H} {s : aS} {i j : Int} (hst : l.stackTraces = false) (w : kS h s) (h47 : 51 ≤ h.1) (ok : aOK s) (hi : IR i) (hj : IR j) :
    am_MetX l g yX4_order (am_W1 yX4_order cX4_order 5 (some .int)) 8 7 131 [.ref 0, vI i, vI j] h (qI fun v h1 => okV i ∧ okV j ∧ v = aOrder s i.toNat j.toNat ∧ kS h1 s ∧ gx h h1 K39) (xK h s (fun E => E = am_AIO ∧ ¬ (okV i ∧ okV j))) := by
  have h0 := w.1
  refine am_mkX [some (.ref 0), some (vI i), some (vI j), none, none] 2 hst rfl rfl (by decide +kernel) (fun x hl hg hC hT hTX => ?_)
  refine am_aload0 hC dX4_order_0 ?_
  refine am_iload1 hC dX4_order_1 ?_
  refine am_xV1_qA hC 4 hTX dX4_order_2 kX4_87 (m_fractionAt _ _ (by rw [hl]; exact hst) w hi) h0 rfl (Nat.le_of_ble_eq_true rfl) (by decide) (by omega) (by omega) (xK.wk (gx.rf _ _) (fun E q => ⟨q.1, fun c => q.2 c.1⟩)) (fun r1 hx1 q => ?_)
  obtain ⟨e, oi, r1a, r1b, F⟩ := q
  rw [e]
  clear e hx1
  refine am_astore3 hC dX4_order_5 rfl ?_
  refine am_aload0 hC dX4_order_6 ?_
  refine am_iload2 hC dX4_order_7 ?_
  refine am_xV1_qA hC 4 hTX dX4_order_8 kX4_87 (m_fractionAt _ _ (by rw [hl]; exact hst) w hj) h0 rfl (Nat.le_of_ble_eq_true rfl) (by decide) (by omega) (by omega) (xK.wk (gx.rf _ _) (fun E q => ⟨q.1, fun c => q.2 c.2⟩)) (fun r2 hx2 q => ?_)
  obtain ⟨e, oj, r2a, r2b, F'⟩ := q
  rw [e]
  clear e hx2
  obtain ⟨u, hu⟩ : ∃ u, u = s.2.1 i.toNat := ⟨_, rfl⟩
  obtain ⟨v, hv⟩ : ∃ v, v = s.2.1 j.toNat := ⟨_, rfl⟩
  have ku : vOK u := by rw [hu]; exact ok.2.1 _ (by have := oi.2; have := oi.1; omega)
  have kv : vOK v := by rw [hv]; exact ok.2.1 _ (by have := oj.2; have := oj.1; omega)
  rw [← hu] at F
  rw [← hv] at F'
  obtain ⟨ku1, ku2, ku3, ku4, ku5⟩ := ku
  obtain ⟨kv1, kv2, kv3, kv4, kv5⟩ := kv
  have cu := cap800 ku4
  have cu' := cap800 ku5
  have cv := cap800 kv4
  have cv' := cap800 kv5
  have sg := sg3 ku1 kv1
  have F1 := F.1
  have F1' := F'.1
  have aA : aOrder s i.toNat j.toNat = if u.1 = v.1 then u.1 * cmpN (u.2.1 * v.2.2) (v.2.1 * u.2.2) else if u.1 < v.1 then -1 else 1 := by rw [aOrder, ← hu, ← hv]
  refine am_astore4 hC dX4_order_11 rfl ?_
  refine am_aload3 hC dX4_order_13 ?_
  refine am_getf hC dX4_order_14 fX4_101 F1 rfl ?_
  refine am_aload4 hC dX4_order_17 ?_
  refine am_getf hC dX4_order_19 fX4_101 F1' rfl ?_
  refine am_icmp_eq hC 43 dX4_order_22 rfl (by omega) (by omega) (fun c22 => ?_) (fun c22 => ?_)
  · have tc1 := w.2.2.2.2.2.2.1
    have ⟨tn1, te1⟩ := tc1.o
    refine am_aload0 hC dX4_order_43 ?_
    refine am_getf hC dX4_order_44 fX4_49 h0 rfl ?_
    refine am_aload3 hC dX4_order_47 ?_
    refine am_getf hC dX4_order_48 fX4_91 F1 rfl ?_
    refine am_aload4 hC dX4_order_51 ?_
    refine am_getf hC dX4_order_53 fX4_94 F1' rfl ?_
    refine am_V2_qN hC 3 dX4_order_56 kX4_97 (m_setProduct _ _ tc1 F.2.1 F'.2.2 (by omega) (by omega) (by omega)) te1 rfl (Nat.le_of_ble_eq_true rfl) (by decide) (by omega) (by omega) (fun h1 r => ?_)
    obtain ⟨w1, o1⟩ := r
    have v1 := w.w (by omega) o1 w1.cc (by omega)
    have k1 := v1.1
    have H1 : h1.1 = h.1 := o1.1
    have Fa1 := F.on o1 (by intro j _ _; simp; omega)
    have Fb1 := F'.on o1 (by intro j _ _; simp; omega)
    have fa1 := Fa1.1
    have fb1 := Fb1.1
    have tc2 := v1.2.2.2.2.2.2.2.1
    have ⟨tn2, te2⟩ := tc2.o
    refine am_aload0 hC dX4_order_59 ?_
    refine am_getf hC dX4_order_60 fX4_52 k1 rfl ?_
    refine am_aload4 hC dX4_order_63 ?_
    refine am_getf hC dX4_order_65 fX4_91 fb1 rfl ?_
    refine am_aload3 hC dX4_order_68 ?_
    refine am_getf hC dX4_order_69 fX4_94 fa1 rfl ?_
    refine am_V2_qN hC 3 dX4_order_72 kX4_97 (m_setProduct _ _ tc2 Fb1.2.1 Fa1.2.2 (by omega) (by omega) (by omega)) te2 rfl (Nat.le_of_ble_eq_true rfl) (by decide) (by omega) (by omega) (fun h2 r => ?_)
    obtain ⟨w2, o2⟩ := r
    have v2 := v1.w (by omega) o2 w2.cc (by omega)
    have k2 := v2.1
    have H2 : h2.1 = h.1 := o2.1.trans H1
    have Fa2 := Fa1.on o2 (by intro j _ _; simp; omega)
    have Fb2 := Fb1.on o2 (by intro j _ _; simp; omega)
    have fa2 := Fa2.1
    have fb2 := Fb2.1
    have w12 := w1.kept o2 (by simp) (by simp)
    refine am_aload3 hC dX4_order_75 ?_
    refine am_getf hC dX4_order_76 fX4_101 fa2 rfl ?_
    refine am_aload0 hC dX4_order_79 ?_
    refine am_getf hC dX4_order_80 fX4_49 k2 rfl ?_
    refine am_aload0 hC dX4_order_83 ?_
    refine am_getf hC dX4_order_84 fX4_52 k2 rfl ?_
    refine am_V1_pI hC 3 dX4_order_87 kX4_108 (m_compareWith _ _ w12 w2) w12.o rfl (Nat.le_of_ble_eq_true rfl) (by decide) (by omega) (by omega) ?_
    refine am_imul hC dX4_order_90 ?_
    exact am_iret hC hT dX4_order_91 (by omega) (by omega) ⟨_, rfl, oi, oj, by rw [aA, if_pos (by omega)], v2, (o1.gx.wk (by simp)).tr (o2.gx.wk (by simp))⟩
  · refine am_aload3 hC dX4_order_25 ?_
    refine am_getf hC dX4_order_26 fX4_101 F1 rfl ?_
    refine am_aload4 hC dX4_order_29 ?_
    refine am_getf hC dX4_order_31 fX4_101 F1' rfl ?_
    refine am_icmp_ge hC 41 dX4_order_34 rfl (by omega) (by omega) (fun c34 => ?_) (fun c34 => ?_)
    · refine am_iconst hC dX4_order_41 ?_
      first
        | exact am_iret hC hT dX4_order_42 (by omega) (by omega) ⟨_, rfl, oi, oj, by rw [aA, if_neg (by omega), if_pos (by omega)], w, gx.rf _ _⟩
        | exact am_iret hC hT dX4_order_42 (by omega) (by omega) ⟨_, rfl, oi, oj, by rw [aA, if_neg (by omega), if_neg (by omega)], w, gx.rf _ _⟩
    · refine am_iconst hC dX4_order_37 ?_
      refine am_goto hC 42 dX4_order_38 rfl ?_
      first
        | exact am_iret hC hT dX4_order_42 (by omega) (by omega) ⟨_, rfl, oi, oj, by rw [aA, if_neg (by omega), if_pos (by omega)], w, gx.rf _ _⟩
        | exact am_iret hC hT dX4_order_42 (by omega) (by omega) ⟨_, rfl, oi, oj, by rw [aA, if_neg (by omega), if_neg (by omega)], w, gx.rf _ _⟩
theorem m_sign (l : Launch) (g : am_G) {h : am_H} {s : aS} {i : Int} (hst : l.stackTraces = false) (w : kS h s) (hi : IR i) :
    am_MetX l g yX4_sign (am_W1 yX4_sign cX4_sign 2 (some .int)) 8 1 6 [.ref 0, vI i] h (qI fun v h1 => okV i ∧ v = (s.2.1 i.toNat).1 ∧ h1 = h) (xK h s (fun E => E = am_AIO ∧ ¬ okV i)) := by
  have h0 := w.1
  refine am_mkX [some (.ref 0), some (vI i)] 0 hst rfl rfl (by decide +kernel) (fun x hl hg hC hT hTX => ?_)
  refine am_aload0 hC dX4_sign_0 ?_
  refine am_iload1 hC dX4_sign_1 ?_
  refine am_xV1_qA hC 4 hTX dX4_sign_2 kX4_87 (m_fractionAt _ _ (by rw [hl]; exact hst) w hi) h0 rfl (Nat.le_of_ble_eq_true rfl) (by decide) (by omega) (by omega) (xK.wk (gx.rf _ _) (fun E q => q)) (fun r1 hx1 q => ?_)
  obtain ⟨e, oi, r1a, r1b, F⟩ := q
  rw [e]
  clear e hx1
  have F1 := F.1
  refine am_getf hC dX4_sign_5 fX4_101 F1 rfl ?_
  exact am_iret hC hT dX4_sign_8 (by omega) (by omega) ⟨_, rfl, oi, rfl, rfl⟩
theorem m_bits (l : Launch) (g : am_G) {h : am_H} {s : aS} {i : Int} (hst : l.stackTraces = false) (w : kS h s) (ok : aOK s) (hi : IR i) :
    am_MetX l g yX4_bits (am_W1 yX4_bits cX4_bits 3 (some .int)) 8 1 6 [.ref 0, vI i] h (qI fun v h1 => okV i ∧ v = aBits s i.toNat ∧ h1 = h) (xK h s (fun E => E = am_AIO ∧ ¬ okV i)) := by
  have h0 := w.1
  refine am_mkX [some (.ref 0), some (vI i), none] 1 hst rfl rfl (by decide +kernel) (fun x hl hg hC hT hTX => ?_)
  refine am_aload0 hC dX4_bits_0 ?_
  refine am_iload1 hC dX4_bits_1 ?_
  refine am_xV1_qA hC 4 hTX dX4_bits_2 kX4_87 (m_fractionAt _ _ (by rw [hl]; exact hst) w hi) h0 rfl (Nat.le_of_ble_eq_true rfl) (by decide) (by omega) (by omega) (xK.wk (gx.rf _ _) (fun E q => q)) (fun r1 hx1 q => ?_)
  obtain ⟨e, oi, r1a, r1b, F⟩ := q
  rw [e]
  clear e hx1
  have ku := ok.2.1 i.toNat (by have := oi.2; have := oi.1; omega)
  obtain ⟨u, hu⟩ : ∃ u, u = s.2.1 i.toNat := ⟨_, rfl⟩
  rw [← hu] at F ku
  have F1 := F.1
  have kk1 := ku.1
  refine am_astore2 hC dX4_bits_5 rfl ?_
  refine am_aload2 hC dX4_bits_6 ?_
  refine am_getf hC dX4_bits_7 fX4_101 F1 rfl ?_
  refine am_if_ne hC 17 dX4_bits_10 rfl (by omega) (fun c10 => ?_) (fun c10 => ?_)
  · refine am_aload2 hC dX4_bits_17 ?_
    refine am_getf hC dX4_bits_18 fX4_91 F1 rfl ?_
    refine am_V0_pI hC 3 dX4_bits_21 kX4_202 (m_width _ _ F.2.1) F.2.1.o rfl (Nat.le_of_ble_eq_true rfl) (by decide) (by omega) (by omega) ?_
    refine am_aload2 hC dX4_bits_24 ?_
    refine am_getf hC dX4_bits_25 fX4_94 F1 rfl ?_
    refine am_V0_pI hC 3 dX4_bits_28 kX4_202 (m_width _ _ F.2.2) F.2.2.o rfl (Nat.le_of_ble_eq_true rfl) (by decide) (by omega) (by omega) ?_
    refine am_iadd hC dX4_bits_31 ?_
    first
      | exact am_iret hC hT dX4_bits_32 (by omega) (by omega) ⟨_, rfl, oi, by rw [aBits, ← hu, if_pos (by omega)], rfl⟩
      | exact am_iret hC hT dX4_bits_32 (by omega) (by omega) ⟨_, rfl, oi, by rw [aBits, ← hu, if_neg (by omega)], rfl⟩
  · refine am_iconst hC dX4_bits_13 ?_
    refine am_goto hC 32 dX4_bits_14 rfl ?_
    first
      | exact am_iret hC hT dX4_bits_32 (by omega) (by omega) ⟨_, rfl, oi, by rw [aBits, ← hu, if_pos (by omega)], rfl⟩
      | exact am_iret hC hT dX4_bits_32 (by omega) (by omega) ⟨_, rfl, oi, by rw [aBits, ← hu, if_neg (by omega)], rfl⟩

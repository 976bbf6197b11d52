/-! round -/
def aGr (sd rule : Int) (q rm D : Nat) : Nat := if rm ≠ 0 ∧ ((rule = 0 ∧ sd < 0) ∨ (rule = 1 ∧ 0 < sd) ∨ (1 < rule ∧ (D < 2 * rm ∨ (2 * rm = D ∧ ((rule = 2 ∧ 0 < sd) ∨ (rule ≠ 2 ∧ q % 2 = 1)))))) then 1 else 0
theorem aGr_y {sd rule : Int} {q rm D : Nat} (c : rm ≠ 0 ∧ ((rule = 0 ∧ sd < 0) ∨ (rule = 1 ∧ 0 < sd) ∨ (1 < rule ∧ (D < 2 * rm ∨ (2 * rm = D ∧ ((rule = 2 ∧ 0 < sd) ∨ (rule ≠ 2 ∧ q % 2 = 1))))))) : (1 : Int) = (aGr sd rule q rm D : Int) := by rw [aGr, if_pos c]; rfl
theorem aGr_n {sd rule : Int} {q rm D : Nat} (c : ¬ (rm ≠ 0 ∧ ((rule = 0 ∧ sd < 0) ∨ (rule = 1 ∧ 0 < sd) ∨ (1 < rule ∧ (D < 2 * rm ∨ (2 * rm = D ∧ ((rule = 2 ∧ 0 < sd) ∨ (rule ≠ 2 ∧ q % 2 = 1)))))))) : (0 : Int) = (aGr sd rule q rm D : Int) := by rw [aGr, if_neg c]; rfl
theorem cmpN_s (a b : Nat) : (cmpN a b = -1 ∧ a < b) ∨ (cmpN a b = 0 ∧ a = b) ∨ (cmpN a b = 1 ∧ b < a) := by
  rcases Nat.lt_trichotomy a b with c | c | c
  · exact Or.inl ⟨cmpN_lt c, c⟩
  · exact Or.inr (Or.inl ⟨by rw [c, cmpN_eq], c⟩)
  · exact Or.inr (Or.inr ⟨cmpN_gt c, c⟩)
theorem m_grows (l : Launch) (g : am_G) {h : am_H} {s : aS} {sd rule : Int} {q rm D cl : Nat} (w : kS h s) (b39 : 43 ≤ h.1) (w18 : wN h 27 56 rm) (w8 : wN h 19 cl q) (wD' : wN h 21 56 D) (zr : szn rm ≤ 54) (hs : IR sd) (hr : IR rule) (hr0 : 0 ≤ rule) :
    am_Met l g yX4_growsWhenRounded (am_W1 yX4_growsWhenRounded cX4_growsWhenRounded 4 (some .boolean)) 4 0 0 [.ref 0, vI sd, vI rule] h (qI fun v h1 => v = (aGr sd rule q rm D : Int) ∧ kS h1 s ∧ gx h h1 [15, 16]) := by
  have h0 := w.1
  have hd := w.2.2.2.2.2.2.2.2.2.2.1.1
  refine am_mk [some (.ref 0), some (vI sd), some (vI rule), none] 1 rfl rfl (by decide +kernel) (fun x hl hg hC hT _ => ?_)
  have t4 := w.2.2.2.2.1
  have ⟨n4, e4⟩ := t4.o
  by_cases z : rm = 0
  · refine am_aload0 hC dX4_growsWhenRounded_0 ?_
    refine am_getf hC dX4_growsWhenRounded_1 fX4_61 h0 rfl ?_
    refine am_getf hC dX4_growsWhenRounded_4 fX4_230 hd rfl ?_
    refine am_V0_pI hC 3 dX4_growsWhenRounded_7 kX4_216 (m_isZero _ _ w18 rfl) w18.o rfl (Nat.le_of_ble_eq_true rfl) (by decide) (by omega) (by omega) ?_
    rw [if_pos z]
    refine am_if_eq hC 15 dX4_growsWhenRounded_10 rfl (by omega) (fun c10 => ?_) (fun c10 => ?_)
    · exact absurd c10 (by omega)
    · refine am_iconst hC dX4_growsWhenRounded_13 ?_
      exact am_zret hC hT dX4_growsWhenRounded_14 (by omega) (by omega) (by omega) ⟨_, rfl, aGr_n (by omega), w, gx.rf _ _⟩
  · refine am_aload0 hC dX4_growsWhenRounded_0 ?_
    refine am_getf hC dX4_growsWhenRounded_1 fX4_61 h0 rfl ?_
    refine am_getf hC dX4_growsWhenRounded_4 fX4_230 hd rfl ?_
    refine am_V0_pI hC 3 dX4_growsWhenRounded_7 kX4_216 (m_isZero _ _ w18 rfl) w18.o rfl (Nat.le_of_ble_eq_true rfl) (by decide) (by omega) (by omega) ?_
    rw [if_neg z]
    refine am_if_eq hC 15 dX4_growsWhenRounded_10 rfl (by omega) (fun c10 => ?_) (fun c10 => ?_)
    · refine am_iload2 hC dX4_growsWhenRounded_15 ?_
      refine am_if_ne hC 29 dX4_growsWhenRounded_16 rfl (by omega) (fun c16 => ?_) (fun c16 => ?_)
      · refine am_iload2 hC dX4_growsWhenRounded_29 ?_
        refine am_iconst hC dX4_growsWhenRounded_30 ?_
        refine am_icmp_ne hC 44 dX4_growsWhenRounded_31 rfl (by omega) (by omega) (fun c31 => ?_) (fun c31 => ?_)
        · refine am_aload0 hC dX4_growsWhenRounded_44 ?_
          refine am_getf hC dX4_growsWhenRounded_45 fX4_43 h0 rfl ?_
          refine am_aload0 hC dX4_growsWhenRounded_48 ?_
          refine am_getf hC dX4_growsWhenRounded_49 fX4_61 h0 rfl ?_
          refine am_getf hC dX4_growsWhenRounded_52 fX4_230 hd rfl ?_
          refine am_aload0 hC dX4_growsWhenRounded_55 ?_
          refine am_getf hC dX4_growsWhenRounded_56 fX4_61 h0 rfl ?_
          refine am_getf hC dX4_growsWhenRounded_59 fX4_230 hd rfl ?_
          refine am_V2_qN hC 3 dX4_growsWhenRounded_62 kX4_105 (m_setSum _ _ t4 w18 w18 (by omega)) e4 rfl (Nat.le_of_ble_eq_true rfl) (by decide) (by omega) (by omega) (fun h1 r => ?_)
          obtain ⟨w1, o1⟩ := r
          have v1 := w.w b39 o1 w1.cc (by omega)
          have k1 := v1.1
          have xD := wD'.kept o1 (by simp) (by simp)
          have x8 := w8.kept o1 (by simp) (by simp)
          rw [← Nat.two_mul] at w1
          have cs := cmpN_s (2 * rm) D
          have G := o1.gx
          refine am_aload0 hC dX4_growsWhenRounded_65 ?_
          refine am_getf hC dX4_growsWhenRounded_66 fX4_43 k1 rfl ?_
          refine am_aload0 hC dX4_growsWhenRounded_69 ?_
          refine am_getf hC dX4_growsWhenRounded_70 fX4_52 k1 rfl ?_
          refine am_V1_pI hC 3 dX4_growsWhenRounded_73 kX4_108 (m_compareWith _ _ w1 xD) w1.o rfl (Nat.le_of_ble_eq_true rfl) (by decide) (by omega) (by omega) ?_
          refine am_istore3 hC dX4_growsWhenRounded_76 rfl ?_
          refine am_iload3 hC dX4_growsWhenRounded_77 ?_
          refine am_if_eq hC 91 dX4_growsWhenRounded_78 rfl (by omega) (fun c78 => ?_) (fun c78 => ?_)
          · refine am_iload2 hC dX4_growsWhenRounded_91 ?_
            refine am_iconst hC dX4_growsWhenRounded_92 ?_
            refine am_icmp_ne hC 108 dX4_growsWhenRounded_93 rfl (by omega) (by omega) (fun c93 => ?_) (fun c93 => ?_)
            · refine am_aload0 hC dX4_growsWhenRounded_108 ?_
              refine am_getf hC dX4_growsWhenRounded_109 fX4_49 k1 rfl ?_
              refine am_V0_pI hC 3 dX4_growsWhenRounded_112 kX4_233 (m_isOdd _ _ x8) x8.o rfl (Nat.le_of_ble_eq_true rfl) (by decide) (by omega) (by omega) ?_
              first
                | exact am_zret hC hT dX4_growsWhenRounded_115 (by omega) (by omega) (by omega) ⟨_, rfl, aGr_y (by omega), v1, G⟩
                | exact am_zret hC hT dX4_growsWhenRounded_115 (by omega) (by omega) (by omega) ⟨_, rfl, aGr_n (by omega), v1, G⟩
                | (rcases Nat.mod_two_eq_zero_or_one q with m2 | m2; (rw [m2]; exact am_zret hC hT dX4_growsWhenRounded_115 (by decide) (by omega) (by omega) ⟨_, rfl, aGr_n (by omega), v1, G⟩); (rw [m2]; exact am_zret hC hT dX4_growsWhenRounded_115 (by decide) (by omega) (by omega) ⟨_, rfl, aGr_y (by omega), v1, G⟩))
            · refine am_iload1 hC dX4_growsWhenRounded_96 ?_
              refine am_if_le hC 104 dX4_growsWhenRounded_97 rfl (by omega) (fun c97 => ?_) (fun c97 => ?_)
              · refine am_iconst hC dX4_growsWhenRounded_104 ?_
                refine am_goto hC 115 dX4_growsWhenRounded_105 rfl ?_
                first
                  | exact am_zret hC hT dX4_growsWhenRounded_115 (by omega) (by omega) (by omega) ⟨_, rfl, aGr_y (by omega), v1, G⟩
                  | exact am_zret hC hT dX4_growsWhenRounded_115 (by omega) (by omega) (by omega) ⟨_, rfl, aGr_n (by omega), v1, G⟩
                  | (rcases Nat.mod_two_eq_zero_or_one q with m2 | m2; (rw [m2]; exact am_zret hC hT dX4_growsWhenRounded_115 (by decide) (by omega) (by omega) ⟨_, rfl, aGr_n (by omega), v1, G⟩); (rw [m2]; exact am_zret hC hT dX4_growsWhenRounded_115 (by decide) (by omega) (by omega) ⟨_, rfl, aGr_y (by omega), v1, G⟩))
              · refine am_iconst hC dX4_growsWhenRounded_100 ?_
                refine am_goto hC 115 dX4_growsWhenRounded_101 rfl ?_
                first
                  | exact am_zret hC hT dX4_growsWhenRounded_115 (by omega) (by omega) (by omega) ⟨_, rfl, aGr_y (by omega), v1, G⟩
                  | exact am_zret hC hT dX4_growsWhenRounded_115 (by omega) (by omega) (by omega) ⟨_, rfl, aGr_n (by omega), v1, G⟩
                  | (rcases Nat.mod_two_eq_zero_or_one q with m2 | m2; (rw [m2]; exact am_zret hC hT dX4_growsWhenRounded_115 (by decide) (by omega) (by omega) ⟨_, rfl, aGr_n (by omega), v1, G⟩); (rw [m2]; exact am_zret hC hT dX4_growsWhenRounded_115 (by decide) (by omega) (by omega) ⟨_, rfl, aGr_y (by omega), v1, G⟩))
          · refine am_iload3 hC dX4_growsWhenRounded_81 ?_
            refine am_if_le hC 89 dX4_growsWhenRounded_82 rfl (by omega) (fun c82 => ?_) (fun c82 => ?_)
            · refine am_iconst hC dX4_growsWhenRounded_89 ?_
              first
                | exact am_zret hC hT dX4_growsWhenRounded_90 (by omega) (by omega) (by omega) ⟨_, rfl, aGr_y (by omega), v1, G⟩
                | exact am_zret hC hT dX4_growsWhenRounded_90 (by omega) (by omega) (by omega) ⟨_, rfl, aGr_n (by omega), v1, G⟩
            · refine am_iconst hC dX4_growsWhenRounded_85 ?_
              refine am_goto hC 90 dX4_growsWhenRounded_86 rfl ?_
              first
                | exact am_zret hC hT dX4_growsWhenRounded_90 (by omega) (by omega) (by omega) ⟨_, rfl, aGr_y (by omega), v1, G⟩
                | exact am_zret hC hT dX4_growsWhenRounded_90 (by omega) (by omega) (by omega) ⟨_, rfl, aGr_n (by omega), v1, G⟩
        · refine am_iload1 hC dX4_growsWhenRounded_34 ?_
          refine am_if_le hC 42 dX4_growsWhenRounded_35 rfl (by omega) (fun c35 => ?_) (fun c35 => ?_)
          · refine am_iconst hC dX4_growsWhenRounded_42 ?_
            first
              | exact am_zret hC hT dX4_growsWhenRounded_43 (by omega) (by omega) (by omega) ⟨_, rfl, aGr_y (by omega), w, gx.rf _ _⟩
              | exact am_zret hC hT dX4_growsWhenRounded_43 (by omega) (by omega) (by omega) ⟨_, rfl, aGr_n (by omega), w, gx.rf _ _⟩
          · refine am_iconst hC dX4_growsWhenRounded_38 ?_
            refine am_goto hC 43 dX4_growsWhenRounded_39 rfl ?_
            first
              | exact am_zret hC hT dX4_growsWhenRounded_43 (by omega) (by omega) (by omega) ⟨_, rfl, aGr_y (by omega), w, gx.rf _ _⟩
              | exact am_zret hC hT dX4_growsWhenRounded_43 (by omega) (by omega) (by omega) ⟨_, rfl, aGr_n (by omega), w, gx.rf _ _⟩
      · refine am_iload1 hC dX4_growsWhenRounded_19 ?_
        refine am_if_ge hC 27 dX4_growsWhenRounded_20 rfl (by omega) (fun c20 => ?_) (fun c20 => ?_)
        · refine am_iconst hC dX4_growsWhenRounded_27 ?_
          first
            | exact am_zret hC hT dX4_growsWhenRounded_28 (by omega) (by omega) (by omega) ⟨_, rfl, aGr_y (by omega), w, gx.rf _ _⟩
            | exact am_zret hC hT dX4_growsWhenRounded_28 (by omega) (by omega) (by omega) ⟨_, rfl, aGr_n (by omega), w, gx.rf _ _⟩
        · refine am_iconst hC dX4_growsWhenRounded_23 ?_
          refine am_goto hC 28 dX4_growsWhenRounded_24 rfl ?_
          first
            | exact am_zret hC hT dX4_growsWhenRounded_28 (by omega) (by omega) (by omega) ⟨_, rfl, aGr_y (by omega), w, gx.rf _ _⟩
            | exact am_zret hC hT dX4_growsWhenRounded_28 (by omega) (by omega) (by omega) ⟨_, rfl, aGr_n (by omega), w, gx.rf _ _⟩
    · exact absurd c10 (by omega)
def aRound (s : aS) (i : Nat) (rule : Int) (u : Nat) : Int × aS :=
  aPut s (s.2.1 i).1 (((s.2.1 i).2.1 / ((s.2.1 i).2.2 * u) + aGr (s.2.1 i).1 rule ((s.2.1 i).2.1 / ((s.2.1 i).2.2 * u)) ((s.2.1 i).2.1 % ((s.2.1 i).2.2 * u)) ((s.2.1 i).2.2 * u)) * u) 1
def okQ (rule unit : Int) : Prop := (0 ≤ rule ∧ rule ≤ 3) ∧ 1 ≤ unit
theorem round_fin {x : am_X} {h H : am_H} {s : aS} {i rule unit : Int} {u : aV} {r1 U N : Nat} {P : Int → am_H → Prop} (hC : am_C x cX4_round yX4_round.cls 8 7 131) (hT : am_T x (some .int) (qI P) 7 131) (ok : aOK s) (ku1 : u.1 = -1 ∨ u.1 = 0 ∨ u.1 = 1) (v : kS H s) (G : gx h H K39) (h47 : 51 ≤ H.1) (hr1 : ((r1 = 2 ∧ fpT r1 = 7 ∧ fpB r1 = 9) ∨ (51 ≤ r1 ∧ 51 ≤ fpT r1 ∧ 51 ≤ fpB r1))) (F : fF H r1 u) (wu : wN H 17 56 U) (wn : wN H 19 56 N) (zN : szn N ≤ 26 + 1) (zP : szn (N * U) ≤ 54) (zU : szn U ≤ 3)
    (fin : ∀ h5, ∀ rv, rv = (aPut s u.1 (N * U) 1).1 → kS h5 (aPut s u.1 (N * U) 1).2 → gx h h5 K39 → P rv h5) : am_W x 124 1 6 H [some (.ref 0), some (vI i), some (vI rule), some (vL unit), none, some (.ref r1)] [] := by
  have k0 := v.1
  have t4 := v.2.2.2.2.1
  have ⟨n4, e4⟩ := t4.o
  refine am_aload0 hC dX4_round_124 ?_
  refine am_getf hC dX4_round_125 fX4_43 k0 rfl ?_
  refine am_aload0 hC dX4_round_128 ?_
  refine am_getf hC dX4_round_129 fX4_49 k0 rfl ?_
  refine am_aload0 hC dX4_round_132 ?_
  refine am_getf hC dX4_round_133 fX4_46 k0 rfl ?_
  refine am_V2_qN hC 3 dX4_round_136 kX4_97 (m_setProduct _ _ t4 wn wu (by omega) (by omega) (by omega)) e4 rfl (Nat.le_of_ble_eq_true rfl) (by decide) (by omega) (by omega) (fun h1 r => ?_)
  obtain ⟨w1, o1⟩ := r
  have v1 := v.w (by omega) o1 w1.cc (by omega)
  have k1 := v1.1
  have H1 : h1.1 = H.1 := o1.1
  have Fa := F.on o1 (by intro j _ _; simp; omega)
  have x12 := v1.2.2.2.2.2.2.2.2.1
  have z1 : szn 1 ≤ 1 := szn_le.mpr (by decide)
  have wu1 := wu.kept o1 (by simp) (by simp)
  refine am_aload0 hC dX4_round_139 ?_
  refine am_getf hC dX4_round_140 fX4_46 k1 rfl ?_
  refine am_aload0 hC dX4_round_143 ?_
  refine am_getf hC dX4_round_144 fX4_36 k1 rfl ?_
  refine am_V1_qN hC 3 dX4_round_147 kX4_156 (m_become _ _ wu1.cc x12 (by omega)) wu1.o rfl (Nat.le_of_ble_eq_true rfl) (by decide) (by omega) (by omega) (fun h2 r => ?_)
  obtain ⟨w2, o2⟩ := r
  have v2 := v1.w (by omega) o2 w2.cc (by omega)
  have k2 := v2.1
  have H2 : h2.1 = H.1 := o2.1.trans H1
  have fb := (Fa.on o2 (by intro j _ _; simp; omega)).1
  have w12 := w1.kept o2 (by simp) (by simp)
  refine am_aload0 hC dX4_round_150 ?_
  refine am_aload5 hC dX4_round_151 ?_
  refine am_getf hC dX4_round_153 fX4_101 fb rfl ?_
  refine am_V1_qI hC 4 dX4_round_156 kX4_83 (m_putNew _ _ v2 (by omega) ok.1 w12 w2 (by decide) zP (by omega)) k2 rfl (Nat.le_of_ble_eq_true rfl) (by decide) (by omega) (by omega) (fun rv h3 r => ?_)
  obtain ⟨e, v3, g3⟩ := r
  exact am_iret hC hT dX4_round_159 (by omega) (by omega) ⟨_, rfl, fin h3 rv e v3 (G.tr ((o1.gx.wk (by simp)).tr ((o2.gx.wk (by simp)).tr (g3.wk kP39))))⟩
theorem m_round (l : Launch) (g : am_G) {h : am_H} {s : aS} {i rule unit : Int} (hst : l.stackTraces = false) (w : kS h s) (h47 : 51 ≤ h.1) (ok : aOK s) (hi : IR i) (hr : IR rule) (hu : -9223372036854775808 ≤ unit ∧ unit ≤ 9223372036854775807) :
    am_MetX l g yX4_round (am_W1 yX4_round cX4_round 6 (some .int)) 8 7 131 [.ref 0, vI i, vI rule, vL unit] h (qI fun v h1 => okV i ∧ okQ rule unit ∧ okR h s (aRound s i.toNat rule unit.natAbs) K39 v h1) (xK h s (fun E => (E = am_AIO ∧ ¬ okV i) ∨ (E = am_IAE ∧ okV i ∧ ¬ okQ rule unit))) := by
  have h0 := w.1
  refine am_mkX [some (.ref 0), some (vI i), some (vI rule), some (vL unit), none, none] 1 hst rfl rfl (by decide +kernel) (fun x hl hg hC hT hTX => ?_)
  refine am_aload0 hC dX4_round_0 ?_
  refine am_iload1 hC dX4_round_1 ?_
  refine am_xV1_qA hC 4 hTX dX4_round_2 kX4_87 (m_fractionAt _ _ (by rw [hl]; exact hst) w hi) h0 rfl (Nat.le_of_ble_eq_true rfl) (by decide) (by omega) (by omega) (xK.wk (gx.rf _ _) (fun E q => Or.inl q)) (fun r1 hx1 q => ?_)
  obtain ⟨e, oi, r1a, r1b, F⟩ := q
  rw [e]
  clear e hx1
  obtain ⟨u, hu'⟩ : ∃ u, u = s.2.1 i.toNat := ⟨_, rfl⟩
  have ku : vOK u := by rw [hu']; exact ok.2.1 _ (by have := oi.2; have := oi.1; omega)
  rw [← hu'] at F
  obtain ⟨ku1, ku2, ku3, ku4, ku5⟩ := ku
  have cu := cap800 ku4
  have cu' := cap800 ku5
  have t6 := w.2.2.2.2.2.1
  have ⟨n6, e6⟩ := t6.o
  refine am_astore5 hC dX4_round_5 rfl ?_
  refine am_iload2 hC dX4_round_7 ?_
  refine am_if_lt hC 16 dX4_round_8 rfl (by omega) (fun c8 => ?_) (fun c8 => ?_)
  · exact am_throw hC hTX tX4_115_146_119 dX4_round_16 dX4_round_19 dX4_round_20 dX4_round_22 dX4_round_25 (by decide) (by decide) (by omega) (by omega) (fun n1 hn => ⟨Or.inr ⟨rfl, oi, by unfold okQ; omega⟩, w.gr hn, gx_gr h hn _⟩)
  · refine am_iload2 hC dX4_round_11 ?_
    refine am_iconst hC dX4_round_12 ?_
    refine am_icmp_le hC 26 dX4_round_13 rfl (by omega) (by omega) (fun c13 => ?_) (fun c13 => ?_)
    · refine am_lload3 hC dX4_round_26 ?_
      refine am_lconst1 hC dX4_round_27 ?_
      refine am_lif_ge hC 42 dX4_round_28 dX4_round_29 rfl (by omega) (by omega) (fun c29 => ?_) (fun c29 => ?_)
      · refine am_aload0 hC dX4_round_42 ?_
        refine am_getf hC dX4_round_43 fX4_46 h0 rfl ?_
        refine am_lload3 hC dX4_round_46 ?_
        have oq : okQ rule unit := ⟨⟨by omega, by omega⟩, by omega⟩
        have zu := sznL hu
        obtain ⟨U, hU⟩ : ∃ U, U = unit.natAbs := ⟨_, rfl⟩
        have U0 : 0 < U := by omega
        have bU : bl U ≤ 63 := bl_le.mpr (Nat.lt_of_le_of_lt (show U ≤ 9223372036854775807 by omega) (by decide))
        refine am_V1_qN hC 3 dX4_round_47 kX4_79 (m_setMagnitude _ _ t6 hu (by omega)) e6 rfl (Nat.le_of_ble_eq_true rfl) (by decide) (by omega) (by omega) (fun h1 r => ?_)
        obtain ⟨w1, o1⟩ := r
        rw [← hU] at w1 zu
        have v1 := w.w (by omega) o1 w1.cc (by omega)
        have k1 := v1.1
        have H1 : h1.1 = h.1 := o1.1
        have Fa := F.on o1 (by intro j _ _; simp; omega)
        have fa := Fa.1
        have t10 := v1.2.2.2.2.2.2.2.1
        have ⟨n10, e10⟩ := t10.o
        refine am_aload0 hC dX4_round_50 ?_
        refine am_getf hC dX4_round_51 fX4_52 k1 rfl ?_
        refine am_aload5 hC dX4_round_54 ?_
        refine am_getf hC dX4_round_56 fX4_94 fa rfl ?_
        refine am_aload0 hC dX4_round_59 ?_
        refine am_getf hC dX4_round_60 fX4_46 k1 rfl ?_
        refine am_V2_qN hC 3 dX4_round_63 kX4_97 (m_setProduct _ _ t10 Fa.2.2 w1 (by omega) (by omega) (by omega)) e10 rfl (Nat.le_of_ble_eq_true rfl) (by decide) (by omega) (by omega) (fun h2 r => ?_)
        obtain ⟨w2, o2⟩ := r
        obtain ⟨D, hD⟩ : ∃ D, D = u.2.2 * U := ⟨_, rfl⟩
        have bD := bl_mul' ku5 bU
        rw [← hD] at w2 bD
        have D0 : 0 < D := by rw [hD]; exact Nat.mul_pos ku3 U0
        have zD := szn_bl D
        have v2 := v1.w (by omega) o2 w2.cc (by omega)
        have k2 := v2.1
        have H2 : h2.1 = h.1 := o2.1.trans H1
        have Fb := Fa.on o2 (by intro j _ _; simp; omega)
        have fb := Fb.1
        have w12 := w1.kept o2 (by simp) (by simp)
        have d2 := v2.2.2.2.2.2.2.2.2.2.2.1
        refine am_aload0 hC dX4_round_66 ?_
        refine am_getf hC dX4_round_67 fX4_61 k2 rfl ?_
        refine am_aload5 hC dX4_round_70 ?_
        refine am_getf hC dX4_round_72 fX4_91 fb rfl ?_
        refine am_aload0 hC dX4_round_75 ?_
        refine am_getf hC dX4_round_76 fX4_52 k2 rfl ?_
        refine am_V2_qN hC 0 dX4_round_79 kX4_150 (m_divide _ _ d2 Fb.2.1 w2 (by omega) (by omega) (by omega) (by omega) (by omega) (by omega) (by omega) (by omega) (by omega)) d2.1 rfl (Nat.le_of_ble_eq_true rfl) (by decide) (by omega) (by omega) (fun h3 r => ?_)
        obtain ⟨d3, q3, r3, o3⟩ := r
        obtain ⟨Q, hQ⟩ : ∃ Q, Q = u.2.1 / D := ⟨_, rfl⟩
        obtain ⟨M, hM⟩ : ∃ M, M = u.2.1 % D := ⟨_, rfl⟩
        rw [← hQ] at q3
        rw [← hM] at r3
        have bQ : bl Q ≤ 800 := Nat.le_trans (bl_mono (by rw [hQ]; exact Nat.div_le_self _ _)) ku4
        have zM : szn M ≤ 26 := Nat.le_trans (szn_mono (by rw [hM]; exact Nat.mod_le _ _)) cu
        have zQ := cap800 bQ
        have v3 := v2.dv (by omega) o3 d3
        have k3 := v3.1
        have H3 : h3.1 = h.1 := o3.1.trans H2
        have d30 := d3.1
        have Fc := Fb.on o3 (by intro j _ _; simp; omega)
        have w13 := w12.kept o3 (by simp) (by simp)
        have w23 := w2.kept o3 (by simp) (by simp)
        have t8 := v3.2.2.2.2.2.2.1
        have ⟨n8, e8⟩ := t8.o
        refine am_aload0 hC dX4_round_82 ?_
        refine am_getf hC dX4_round_83 fX4_49 k3 rfl ?_
        refine am_aload0 hC dX4_round_86 ?_
        refine am_getf hC dX4_round_87 fX4_61 k3 rfl ?_
        refine am_getf hC dX4_round_90 fX4_153 d30 rfl ?_
        refine am_V1_qN hC 3 dX4_round_93 kX4_156 (m_become _ _ t8 q3 (by omega)) e8 rfl (Nat.le_of_ble_eq_true rfl) (by decide) (by omega) (by omega) (fun h4 r => ?_)
        obtain ⟨w4, o4⟩ := r
        have v4 := v3.w (by omega) o4 w4.cc (by omega)
        have k4 := v4.1
        have H4 : h4.1 = h.1 := o4.1.trans H3
        have Fd := Fc.on o4 (by intro j _ _; simp; omega)
        have fd := Fd.1
        have w14 := w13.kept o4 (by simp) (by simp)
        have w24 := w23.kept o4 (by simp) (by simp)
        have r4 := r3.kept o4 (by simp) (by simp)
        refine am_aload0 hC dX4_round_96 ?_
        refine am_aload5 hC dX4_round_97 ?_
        refine am_getf hC dX4_round_99 fX4_101 fd rfl ?_
        refine am_iload2 hC dX4_round_102 ?_
        refine am_V2_qI hC 4 dX4_round_103 kX4_160 (m_grows _ _ v4 (by omega) r4 w4 w24 (by omega) (by omega) hr (by omega)) k4 rfl (Nat.le_of_ble_eq_true rfl) (by decide) (by omega) (by omega) (fun gv h5 r => ?_)
        obtain ⟨eg, v5, g5⟩ := r
        obtain ⟨gr, hgr⟩ : ∃ gr, gr = aGr u.1 rule Q M D := ⟨_, rfl⟩
        rw [← hgr] at eg
        have gr1 : gr ≤ 1 := by rw [hgr, aGr]; split <;> omega
        rw [eg]
        clear eg
        have k5 := v5.1
        have b5 := g5.1
        have H5 : 51 ≤ h5.1 := by omega
        have Fe := Fd.gx g5 (by omega) (by intro j _ _; simp; omega)
        have w15 := w14.gx g5 (by omega) (by simp) (by simp)
        have w45 := w4.gx g5 (by omega) (by simp) (by simp)
        have x12 := v5.2.2.2.2.2.2.2.2.1
        have G5 : gx h h5 K39 := (o1.gx.wk (by simp)).tr ((o2.gx.wk (by simp)).tr ((o3.gx.wk (by simp)).tr ((o4.gx.wk (by simp)).tr (g5.wk (by simp)))))
        have fin : ∀ (H : am_H), kS H s → gx h H K39 → 51 ≤ H.1 → fF H r1 u → wN H 17 56 U → wN H 19 56 (Q + gr) → am_W x 124 1 6 H [some (.ref 0), some (vI i), some (vI rule), some (vL unit), none, some (.ref r1)] [] := fun H p1 p2 p3 p4 p5 p6 => round_fin hC hT ok ku1 p1 p2 p3 (by omega) p4 p5 p6 (by have := szn_bl (Q + gr); have := bl_add Q gr; have : bl gr ≤ 1 := bl_le.mpr (by omega); omega) (by have := szn_bl ((Q + gr) * U); have := bl_mul (Q + gr) U; have := bl_add Q gr; have : bl gr ≤ 1 := bl_le.mpr (by omega); omega) zu (fun hz rv r1 r2 r3 => ⟨oi, oq, by rw [aRound, ← hu', ← hU, ← hD, ← hQ, ← hM, ← hgr]; exact r1, by rw [aRound, ← hu', ← hU, ← hD, ← hQ, ← hM, ← hgr]; exact r2, r3⟩)
        refine am_if_eq hC 124 dX4_round_106 rfl (by omega) (fun c106 => ?_) (fun c106 => ?_)
        · first
            | exact fin h5 v5 G5 H5 Fe w15 (by rw [show Q + gr = Q by omega]; exact w45)
            | exact fin h6 (v5.w (by omega) o6 w6.cc (by omega)) (G5.tr (o6.gx.wk (by simp))) (by have := o6.1; omega) (Fe.on o6 (by intro j _ _; simp; omega)) (w15.kept o6 (by simp) (by simp)) (by rw [show Q + gr = Q + 1 by omega]; exact w6)
        · refine am_aload0 hC dX4_round_109 ?_
          refine am_getf hC dX4_round_110 fX4_49 k5 rfl ?_
          refine am_aload0 hC dX4_round_113 ?_
          refine am_getf hC dX4_round_114 fX4_49 k5 rfl ?_
          refine am_aload0 hC dX4_round_117 ?_
          refine am_getf hC dX4_round_118 fX4_36 k5 rfl ?_
          refine am_V2_qN hC 3 dX4_round_121 kX4_105 (m_setSum _ _ w45.cc w45 x12 (by have : szn 1 ≤ 1 := szn_le.mpr (by decide); omega)) w45.o rfl (Nat.le_of_ble_eq_true rfl) (by decide) (by omega) (by omega) (fun h6 r => ?_)
          obtain ⟨w6, o6⟩ := r
          first
            | exact fin h5 v5 G5 H5 Fe w15 (by rw [show Q + gr = Q by omega]; exact w45)
            | exact fin h6 (v5.w (by omega) o6 w6.cc (by omega)) (G5.tr (o6.gx.wk (by simp))) (by have := o6.1; omega) (Fe.on o6 (by intro j _ _; simp; omega)) (w15.kept o6 (by simp) (by simp)) (by rw [show Q + gr = Q + 1 by omega]; exact w6)
      · exact am_throw hC hTX tX4_115_148_119 dX4_round_32 dX4_round_35 dX4_round_36 dX4_round_38 dX4_round_41 (by decide) (by decide) (by omega) (by omega) (fun n1 hn => ⟨Or.inr ⟨rfl, oi, by unfold okQ; omega⟩, w.gr hn, gx_gr h hn _⟩)
    · exact am_throw hC hTX tX4_115_146_119 dX4_round_16 dX4_round_19 dX4_round_20 dX4_round_22 dX4_round_25 (by decide) (by decide) (by omega) (by omega) (fun n1 hn => ⟨Or.inr ⟨rfl, oi, by unfold okQ; omega⟩, w.gr hn, gx_gr h hn _⟩)

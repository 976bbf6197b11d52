/-! putNew -/
def aSet (V : Nat → aV) (n : Nat) (v : aV) : Nat → aV := fun i => if i = n then v else V i
/-- the value sd * a / b is put: its number, the state after it -/
def aPut (s : aS) (sd : Int) (a b : Nat) : Int × aS :=
  if 150 ≤ s.1 ∨ 800 < bl (a / Nat.gcd a b) ∨ 800 < bl (b / Nat.gcd a b) then (-1, s) else ((s.1 : Int), (s.1 + 1, aSet s.2.1 s.1 (if a = 0 then 0 else sd, a / Nat.gcd a b, b / Nat.gcd a b), s.2.2))
theorem aPut_n {s : aS} {sd : Int} {a b : Nat} (q : 150 ≤ s.1 ∨ 800 < bl (a / Nat.gcd a b) ∨ 800 < bl (b / Nat.gcd a b)) : aPut s sd a b = (-1, s) := if_pos q
theorem aPut_y {s : aS} {sd : Int} {a b : Nat} (q : ¬ (150 ≤ s.1 ∨ 800 < bl (a / Nat.gcd a b) ∨ 800 < bl (b / Nat.gcd a b))) : aPut s sd a b = ((s.1 : Int), (s.1 + 1, aSet s.2.1 s.1 (if a = 0 then 0 else sd, a / Nat.gcd a b, b / Nat.gcd a b), s.2.2)) := if_neg q
theorem gcd_div0 {a b : Nat} (hb : 0 < b) : a / Nat.gcd a b = 0 ↔ a = 0 := by
  have hg : 0 < Nat.gcd a b := Nat.gcd_pos_of_pos_right _ hb
  have hd : Nat.gcd a b ∣ a := Nat.gcd_dvd_left a b
  constructor
  · intro q
    have := Nat.div_mul_cancel hd
    rw [q] at this; omega
  · intro q; subst q; rw [Nat.zero_div]
abbrev kP : List Nat := [0, 1, 15, 16, 17, 18, 25, 26, 27, 28, 29, 30, 31, 33, 34, 35, 36, 37, 38, 39, 40, 41, 42]
theorem cap800 {a : Nat} (h : bl a ≤ 800) : szn a ≤ 26 := by
  have h1 : a < 2 ^ 800 := bl_le.mp h
  refine szn_le.mpr (Nat.lt_of_lt_of_le h1 ?_)
  rw [show (2147483648 : Nat) = 2 ^ 31 from rfl, ← Nat.pow_mul]
  exact Nat.pow_le_pow_right (by decide) (by decide)
theorem kO_set1 (h : am_H) (n rt tw v : Int) : am_up h 0 (eO 4 ([Value.ref 1, .ref 2, vI n, .ref 11, vI rt, .ref 12, vI tw, .ref 13, .ref 15, .ref 17, .ref 19, .ref 21, .ref 23, .ref 24, .ref 31].set 2 (vI v))) = am_up h 0 (kO v rt tw) := rfl
theorem fF_mk {h : am_H} {q : Nat} {s : Int} {x y : Nat} (hq : 10 ≤ q) (f1 : h.2 q = some (eO 1 [vI s, .ref (q + 1), .ref (q + 3)])) (f2 : wN h (q + 1) (szn x) x) (f3 : wN h (q + 3) (szn y) y) : fF h q (s, x, y) := by
  have r := fp_r q
  have r1 : fpT q = q + 1 := by omega
  have r2 : fpB q = q + 3 := by omega
  unfold fF
  rw [r1, r2]
  exact ⟨f1, f2, f3⟩
theorem putNew_fin {z : am_X} {H j2 : am_H} {s : aS} {sd sv : Int} {A B t q : Nat} {P : Int → am_H → Prop} (hC : am_C z cX4_putNew yX4_putNew.cls 6 5 119) (hT : am_T z (some .int) (qI P) 5 119)
    (v : kS H s) (hq : H.1 = q) (h47 : 51 ≤ q) (n150 : s.1 < 150) (gj : gx H j2 []) (p34 : j2.2 q = some (eO 1 [vI 0, .null, .null])) (t34 : j2.1 = q + 1) (u4 : wN j2 15 56 A) (u6 : wN j2 17 56 B) (sA : szn A ≤ 56) (sB : szn B ≤ 56)
    (fin : ∀ H5, kS H5 (s.1 + 1, aSet s.2.1 s.1 (sv, A, B), s.2.2) → gx H H5 [0, 1] → P (s.1 : Int) H5) : am_W z 155 1 3 j2 [some (.ref 0), some (vI sd), some (.ref t)] [vI sv, .ref q, .ref q, vI (s.1 : Int), .ref 1] := by
  have j0 : j2.2 0 = some (kO s.1 s.2.2.1 s.2.2.2.2.1) := by rw [gj.2 0 (by omega) (by simp)]; exact v.1
  refine am_aload0 hC dX4_putNew_155 ?_
  refine am_getf hC dX4_putNew_156 fX4_43 j0 rfl ?_
  refine am_aload0 hC dX4_putNew_159 ?_
  refine am_getf hC dX4_putNew_160 fX4_46 j0 rfl ?_
  refine am_I3_qN hC dX4_putNew_163 kX4_21 (m_Finit (s := sv) _ _ p34 t34 u4 u6 sA sB) (Nat.le_of_ble_eq_true rfl) (by decide) (by omega) (by omega) (fun j3 r => ?_)
  obtain ⟨s3, f1, f2, f3, gf⟩ := r
  have g3 : gx H j3 [] := gj.cut gf (by simp; omega)
  have v3 : kS j3 s := v.tmp g3 (by omega) (by simp) (v.2.2.2.2.gx g3 (by omega) (by simp))
  obtain ⟨f, k1, kf⟩ := v3.2.1
  refine am_aast hC dX4_putNew_166 k1 f1 (by omega) (by omega) ?_
  rw [Int.toNat_natCast]
  refine am_heap (fun H4 e => ?_)
  have g4 : gx j3 H4 [1] := by rw [e]; exact gx_up _ _ _
  have N1 : H4.2 1 = _ := (congrArg (fun H => H.2 1) e).trans (am_up_at _ _ _)
  have s4 : H4.1 = q + 5 := by rw [e]; exact s3
  clear e
  have N0 : H4.2 0 = some (kO s.1 s.2.2.1 s.2.2.2.2.1) := by rw [g4.2 0 (by omega) (by simp)]; exact v3.1
  refine am_aload0 hC dX4_putNew_167 ?_
  refine am_dup hC dX4_putNew_168 rfl ?_
  refine am_getf hC dX4_putNew_169 fX4_125 N0 rfl ?_
  refine am_dup_x1 hC dX4_putNew_172 rfl rfl ?_
  refine am_iconst hC dX4_putNew_173 ?_
  refine am_iadd hC dX4_putNew_174 ?_
  refine am_putf hC dX4_putNew_175 pX4_125 (fun q => by cases q) N0 (am_fitI _) (Nat.le_of_ble_eq_true rfl) ?_
  rw [kO_set1]
  refine am_heap (fun H5 e => ?_)
  have g5 : gx H4 H5 [0] := by rw [e]; exact gx_up _ _ _
  have M0 : H5.2 0 = _ := (congrArg (fun H => H.2 0) e).trans (am_up_at _ _ _)
  have s5 : H5.1 = q + 5 := by rw [e]; exact s4
  clear e
  have g35 : gx j3 H5 [0, 1] := (g4.wk (by simp)).tr (g5.wk (by simp))
  refine am_iret hC hT dX4_putNew_178 (by omega) (by omega) ⟨_, rfl, fin H5 ⟨M0, ⟨_, (g5.2 1 (by omega) (by simp)).trans N1, fun i hi => ?_⟩, (g35.2 11 (by omega) (by simp)).trans v3.2.2.1, (g35.2 12 (by omega) (by simp)).trans v3.2.2.2.1, v3.2.2.2.2.gx g35 (by omega) (by intro j _ _; simp; omega)⟩ ((g3.wk (by simp)).tr g35)⟩
  have rq := fp_r q
  by_cases c : i = s.1
  · exact ⟨q, by unfold am_fq; rw [if_pos c]; exact Or.inl rfl, fp_in (Or.inr h47), by omega, by unfold aSet; dsimp only; rw [if_pos c]; exact fF.gx (fF_mk (by omega) f1 f2 f3) g35 (by omega) (by intro j _ _; simp; omega)⟩
  · obtain ⟨r, e1, e2, e3, e4⟩ := kf i hi
    exact ⟨r, by unfold am_fq; rw [if_neg c]; exact e1, e2, by omega, by unfold aSet; dsimp only; rw [if_neg c]; exact e4.gx g35 (by omega) (by intro j _ _; simp; omega)⟩
theorem m_putNew (l : Launch) (g : am_G) {h : am_H} {s : aS} {sd : Int} {a b : Nat} (w : kS h s) (h47 : 51 ≤ h.1) (hn : s.1 ≤ 150) (wa : wN h 15 56 a) (wb : wN h 17 56 b) (hb : 0 < b) (sa : szn a ≤ 54) (sb : szn b ≤ 54) :
    am_Met l g yX4_putNew (am_W1 yX4_putNew cX4_putNew 3 (some .int)) 6 5 119 [.ref 0, vI sd] h (qI fun v h1 => v = (aPut s sd a b).1 ∧ kS h1 (aPut s sd a b).2 ∧ gx h h1 kP) := by
  have h0 := w.1
  obtain ⟨f, h1, hf⟩ := w.2.1
  refine am_mk [some (.ref 0), some (vI sd), none] 1 rfl rfl (by decide +kernel) (fun z hl hg hC hT _ => ?_)
  obtain ⟨G, hG⟩ : ∃ G, G = Nat.gcd a b := ⟨_, rfl⟩
  have gp : 0 < G := by rw [hG]; exact Nat.gcd_pos_of_pos_right _ hb
  have sG : szn G ≤ 54 := Nat.le_trans (szn_mono (by rw [hG]; exact Nat.le_of_dvd hb (Nat.gcd_dvd_right a b))) sb
  have s1 : szn (a / G) ≤ 54 := Nat.le_trans (szn_mono (Nat.div_le_self _ _)) sa
  have s2 : szn (b / G) ≤ 54 := Nat.le_trans (szn_mono (Nat.div_le_self _ _)) sb
  have tail : ∀ (H : am_H) (t : Nat), kS H s → wN H 15 56 (a / G) → wN H 17 56 (b / G) → gx h H kP → s.1 < 150 → am_W z 100 0 0 H [some (.ref 0), some (vI sd), some (.ref t)] [] := by
    intro H t v v4 v6 o q150
    have k0 := v.1
    obtain ⟨f, k1, kf⟩ := v.2.1
    have H47 : 51 ≤ H.1 := Nat.le_trans h47 o.1
    have bad : 800 < bl (a / G) ∨ 800 < bl (b / G) → am_W z 126 0 0 H [some (.ref 0), some (vI sd), some (.ref t)] [] := by
      intro q
      rw [hG] at q
      refine am_iconst hC dX4_putNew_126 ?_
      exact am_iret hC hT dX4_putNew_127 (by omega) (by omega) ⟨_, rfl, by rw [aPut_n (Or.inr q)], by rw [aPut_n (Or.inr q)]; exact v, o⟩
    refine am_aload0 hC dX4_putNew_100 ?_
    refine am_getf hC dX4_putNew_101 fX4_43 k0 rfl ?_
    refine am_V0_pI hC 3 dX4_putNew_104 kX4_202 (m_width _ _ v4) v4.o rfl (Nat.le_of_ble_eq_true rfl) (by decide) (by omega) (by omega) ?_
    have b4 := szn_bl (a / G)
    have b6 := szn_bl (b / G)
    refine am_sipush hC dX4_putNew_107 rfl ?_
    refine am_icmp_gt hC 126 dX4_putNew_110 rfl (by omega) (by omega) (fun c110 => ?_) (fun c110 => ?_)
    · exact bad (by omega)
    · refine am_aload0 hC dX4_putNew_113 ?_
      refine am_getf hC dX4_putNew_114 fX4_46 k0 rfl ?_
      refine am_V0_pI hC 3 dX4_putNew_117 kX4_202 (m_width _ _ v6) v6.o rfl (Nat.le_of_ble_eq_true rfl) (by decide) (by omega) (by omega) ?_
      refine am_sipush hC dX4_putNew_120 rfl ?_
      refine am_icmp_le hC 128 dX4_putNew_123 rfl (by omega) (by omega) (fun c123 => ?_) (fun c123 => ?_)
      · refine am_aload0 hC dX4_putNew_128 ?_
        refine am_getf hC dX4_putNew_129 fX4_11 k0 rfl ?_
        refine am_aload0 hC dX4_putNew_132 ?_
        refine am_getf hC dX4_putNew_133 fX4_125 k0 rfl ?_
        refine am_new hC (ci := 1) (RX1, TX1, 3) tyX1 [vI 0, .null, .null] dX4_putNew_136 rfl tyX1_ok nf1 nX4_9f.1 nX4_9f.2.1 nX4_9f.2.2 (by omega) (by show _ + 3 ≤ _; omega) ?_
        refine am_wz ?_
        refine am_heap (fun j2 e => ?_)
        have p34 : j2.2 H.1 = some (eO 1 [vI 0, .null, .null]) := by rw [e]; exact am_push_at _ _
        have t34 : j2.1 = H.1 + 1 := by rw [e]; rfl
        have gj : gx H j2 [] := by rw [e]; exact gx_push _ _ _
        clear e
        have j0 : j2.2 0 = _ := (gj.2 0 (by omega) (by simp)).trans k0
        have u4 := v4.gx gj (by omega) (by simp) (by simp)
        have u6 := v6.gx gj (by omega) (by simp) (by simp)
        refine am_dup hC dX4_putNew_139 rfl ?_
        refine am_aload0 hC dX4_putNew_140 ?_
        refine am_getf hC dX4_putNew_141 fX4_43 j0 rfl ?_
        refine am_V0_pI hC 3 dX4_putNew_144 kX4_216 (m_isZero _ _ u4 rfl) u4.o rfl (Nat.le_of_ble_eq_true rfl) (by decide) (by omega) (by omega) ?_
        have e01 : a / G = 0 ↔ a = 0 := by rw [hG]; exact gcd_div0 hb
        have good : ¬ (150 ≤ s.1 ∨ 800 < bl (a / Nat.gcd a b) ∨ 800 < bl (b / Nat.gcd a b)) := by rw [← hG]; omega
        have fin : ∀ sv : Int, sv = (if a = 0 then 0 else sd) → am_W z 155 1 3 j2 [some (.ref 0), some (vI sd), some (.ref t)] [vI sv, .ref H.1, .ref H.1, vI (s.1 : Int), .ref 1] := fun sv hsv => putNew_fin hC hT v rfl H47 q150 gj p34 t34 u4 u6 (by omega) (by omega) (fun H5 x1 x2 => by
          rw [aPut_y good]
          exact ⟨rfl, by rw [← hG, ← hsv]; exact x1, o.tr (x2.wk (by simp))⟩)
        refine am_if_eq hC 154 dX4_putNew_147 rfl (by omega) (fun c147 => ?_) (fun c147 => ?_)
        · refine am_iload1 hC dX4_putNew_154 ?_
          first
            | exact fin 0 (by rw [if_pos (e01.mp (by by_cases c : a / G = 0 <;> simp_all))])
            | exact fin sd (by rw [if_neg (fun c => absurd (e01.mpr c) (by by_cases c2 : a / G = 0 <;> simp_all))])
        · refine am_iconst hC dX4_putNew_150 ?_
          refine am_goto hC 155 dX4_putNew_151 rfl ?_
          first
            | exact fin 0 (by rw [if_pos (e01.mp (by by_cases c : a / G = 0 <;> simp_all))])
            | exact fin sd (by rw [if_neg (fun c => absurd (e01.mpr c) (by by_cases c2 : a / G = 0 <;> simp_all))])
      · exact bad (by omega)
  refine am_aload0 hC dX4_putNew_0 ?_
  refine am_getf hC dX4_putNew_1 fX4_125 h0 rfl ?_
  refine am_if_lt hC 19 dX4_putNew_4 rfl (by omega) (fun c4 => ?_) (fun c4 => ?_)
  · exact absurd c4 (by omega)
  · refine am_aload0 hC dX4_putNew_7 ?_
    refine am_getf hC dX4_putNew_8 fX4_125 h0 rfl ?_
    refine am_aload0 hC dX4_putNew_11 ?_
    refine am_getf hC dX4_putNew_12 fX4_11 h0 rfl ?_
    refine am_alenR hC dX4_putNew_15 h1 ?_
    refine am_icmp_lt hC 21 dX4_putNew_16 rfl (by omega) (by omega) (fun c16 => ?_) (fun c16 => ?_)
    · refine am_aload0 hC dX4_putNew_21 ?_
      refine am_getf hC dX4_putNew_22 fX4_68 h0 rfl ?_
      refine am_aload0 hC dX4_putNew_25 ?_
      refine am_getf hC dX4_putNew_26 fX4_43 h0 rfl ?_
      refine am_aload0 hC dX4_putNew_29 ?_
      refine am_getf hC dX4_putNew_30 fX4_46 h0 rfl ?_
      refine am_V2_qA hC 2 dX4_putNew_33 kX4_212 (m_commonDivisor _ _ w.2.2.2.2.2.2.2.2.2.2.2 wa wb sa sb (by omega) (by omega)) w.2.2.2.2.2.2.2.2.2.2.2.1.choose_spec.choose_spec.choose_spec.choose_spec rfl (Nat.le_of_ble_eq_true rfl) (by decide) (by omega) (by omega) (fun r H r1 => ?_)
      obtain ⟨rfl, m1, w30, o1⟩ := r1
      rw [← hG] at w30
      have v1 : kS H s := w.mv (by omega) o1 m1
      have k0 := v1.1
      have x12 := v1.2.2.2.2.2.2.2.2.1
      have x15 := v1.2.2.2.2.2.2.2.2.2.2.1
      have xa := wa.kept o1 (by simp) (by simp)
      have xb := wb.kept o1 (by simp) (by simp)
      have H1 : H.1 = h.1 := o1.1
      refine am_astore2 hC dX4_putNew_36 rfl ?_
      refine am_aload2 hC dX4_putNew_37 ?_
      refine am_aload0 hC dX4_putNew_38 ?_
      refine am_getf hC dX4_putNew_39 fX4_36 k0 rfl ?_
      refine am_V1_pI hC 3 dX4_putNew_42 kX4_108 (m_compareWith _ _ w30 x12) w30.o rfl (Nat.le_of_ble_eq_true rfl) (by decide) (by omega) (by omega) ?_
      have cr := cmpN_r G 1
      have G1 : cmpN G 1 ≤ 0 → G = 1 := fun c45 => by
        rcases Nat.lt_or_ge 1 G with c | c
        · rw [cmpN_gt c] at c45; omega
        · omega
      refine am_if_le hC 100 dX4_putNew_45 rfl (by omega) (fun c45 => ?_) (fun c45 => ?_)
      · first
          | exact tail h5 39 v5 (a4.kept o5 (by simp) (by simp)) b5 ((o1.gx.wk (by simp)).tr ((o2.gx.wk (by simp)).tr ((o3.gx.wk (by simp)).tr ((o4.gx.wk (by simp)).tr (o5.gx.wk (by simp)))))) (by omega)
          | exact tail H 39 v1 (by rw [G1 (by omega), Nat.div_one]; exact xa) (by rw [G1 (by omega), Nat.div_one]; exact xb) (o1.gx.wk (by simp)) (by omega)
      · refine am_aload0 hC dX4_putNew_48 ?_
        refine am_getf hC dX4_putNew_49 fX4_61 k0 rfl ?_
        refine am_aload0 hC dX4_putNew_52 ?_
        refine am_getf hC dX4_putNew_53 fX4_43 k0 rfl ?_
        refine am_aload2 hC dX4_putNew_56 ?_
        refine am_V2_qN hC 0 dX4_putNew_57 kX4_150 (m_divide _ _ x15 xa w30 (by omega) sa sG (by omega) (by omega) (by omega) (by omega) (by omega) (by omega)) x15.1 rfl (Nat.le_of_ble_eq_true rfl) (by decide) (by omega) (by omega) (fun h2 r => ?_)
        obtain ⟨d2, q2, -, o2⟩ := r
        have v2 := v1.dv (by omega) o2 d2
        have k2 := v2.1
        have d20 := d2.1
        have xa2 := xa.kept o2 (by simp) (by simp)
        have xb2 := xb.kept o2 (by simp) (by simp)
        have w302 := w30.kept o2 (by simp) (by simp)
        have H2 : h2.1 = h.1 := o2.1.trans H1
        refine am_aload0 hC dX4_putNew_60 ?_
        refine am_getf hC dX4_putNew_61 fX4_43 k2 rfl ?_
        refine am_aload0 hC dX4_putNew_64 ?_
        refine am_getf hC dX4_putNew_65 fX4_61 k2 rfl ?_
        refine am_getf hC dX4_putNew_68 fX4_153 d20 rfl ?_
        refine am_V1_qN hC 3 dX4_putNew_71 kX4_156 (m_become _ _ xa2.cc q2 (by omega)) xa2.o rfl (Nat.le_of_ble_eq_true rfl) (by decide) (by omega) (by omega) (fun h3 r => ?_)
        obtain ⟨a3, o3⟩ := r
        have v3 := v2.w (by omega) o3 a3.cc (by omega)
        have k3 := v3.1
        have xb3 := xb2.kept o3 (by simp) (by simp)
        have w303 := w302.kept o3 (by simp) (by simp)
        have d3 := v3.2.2.2.2.2.2.2.2.2.2.1
        have H3 : h3.1 = h.1 := o3.1.trans H2
        refine am_aload0 hC dX4_putNew_74 ?_
        refine am_getf hC dX4_putNew_75 fX4_61 k3 rfl ?_
        refine am_aload0 hC dX4_putNew_78 ?_
        refine am_getf hC dX4_putNew_79 fX4_46 k3 rfl ?_
        refine am_aload2 hC dX4_putNew_82 ?_
        refine am_V2_qN hC 0 dX4_putNew_83 kX4_150 (m_divide _ _ d3 xb3 w303 (by omega) sb sG (by omega) (by omega) (by omega) (by omega) (by omega) (by omega)) d3.1 rfl (Nat.le_of_ble_eq_true rfl) (by decide) (by omega) (by omega) (fun h4 r => ?_)
        obtain ⟨d4, q4, -, o4⟩ := r
        have v4 := v3.dv (by omega) o4 d4
        have k4 := v4.1
        have d40 := d4.1
        have a4 := a3.kept o4 (by simp) (by simp)
        have xb4 := xb3.kept o4 (by simp) (by simp)
        have H4 : h4.1 = h.1 := o4.1.trans H3
        refine am_aload0 hC dX4_putNew_86 ?_
        refine am_getf hC dX4_putNew_87 fX4_46 k4 rfl ?_
        refine am_aload0 hC dX4_putNew_90 ?_
        refine am_getf hC dX4_putNew_91 fX4_61 k4 rfl ?_
        refine am_getf hC dX4_putNew_94 fX4_153 d40 rfl ?_
        refine am_V1_qN hC 3 dX4_putNew_97 kX4_156 (m_become _ _ xb4.cc q4 (by omega)) xb4.o rfl (Nat.le_of_ble_eq_true rfl) (by decide) (by omega) (by omega) (fun h5 r => ?_)
        obtain ⟨b5, o5⟩ := r
        have v5 := v4.w (by omega) o5 b5.cc (by omega)
        first
          | exact tail h5 39 v5 (a4.kept o5 (by simp) (by simp)) b5 ((o1.gx.wk (by simp)).tr ((o2.gx.wk (by simp)).tr ((o3.gx.wk (by simp)).tr ((o4.gx.wk (by simp)).tr (o5.gx.wk (by simp)))))) (by omega)
          | exact tail H 39 v1 (by rw [G1 (by omega), Nat.div_one]; exact xa) (by rw [G1 (by omega), Nat.div_one]; exact xb) (o1.gx.wk (by simp)) (by omega)
    · have q := (Or.inl (by omega) : 150 ≤ s.1 ∨ 800 < bl (a / Nat.gcd a b) ∨ 800 < bl (b / Nat.gcd a b))
      refine am_iconst hC dX4_putNew_19 ?_
      exact am_iret hC hT dX4_putNew_20 (by omega) (by omega) ⟨_, rfl, by rw [aPut_n q], by rw [aPut_n q]; exact w, gx.rf _ _⟩

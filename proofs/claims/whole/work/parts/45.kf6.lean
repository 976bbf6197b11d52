/-! value, add, times, over, order, sign, bits -/
/-- the sign and the parts of a number -/
def vOK (v : aV) : Prop := (v.1 = -1 ∨ v.1 = 0 ∨ v.1 = 1) ∧ (v.1 = 0 ↔ v.2.1 = 0) ∧ 0 < v.2.2 ∧ bl v.2.1 ≤ 800 ∧ bl v.2.2 ≤ 800
def aOK (s : aS) : Prop := s.1 ≤ 150 ∧ (∀ i, i < 150 → vOK (s.2.1 i)) ∧ s.2.2.1 ≤ 40 ∧ (∀ i, i < 80 → -1 ≤ s.2.2.2.1 i ∧ s.2.2.2.1 i < 150) ∧ s.2.2.2.2.1 ≤ 32 ∧ ∀ i, i < 32 → 0 ≤ s.2.2.2.2.2 i ∧ s.2.2.2.2.2 i ≤ 1000000000
def okR (h : am_H) (s : aS) (r : Int × aS) (P : List Nat) : Int → am_H → Prop := fun v h1 => v = r.1 ∧ kS h1 r.2 ∧ gx h h1 P
theorem kP39 : ∀ q ∈ kP, q ∈ K39 := by decide
def aValue (s : aS) (a b : Int) : Int × aS := aPut s (if (a < 0) = (b < 0) then 1 else -1) a.natAbs b.natAbs
theorem sznL {v : Int} (h : -9223372036854775808 ≤ v ∧ v ≤ 9223372036854775807) : szn v.natAbs ≤ 3 := by
  have h1 : v.natAbs ≤ 9223372036854775808 := by omega
  exact szn_le.mpr (Nat.lt_of_le_of_lt h1 (by decide))
theorem m_value (l : Launch) (g : am_G) {h : am_H} {s : aS} {a b : Int} (hst : l.stackTraces = false) (w : kS h s) (h47 : 51 ≤ h.1) (ok : aOK s) (ha : -9223372036854775808 ≤ a ∧ a ≤ 9223372036854775807) (hb : -9223372036854775808 ≤ b ∧ b ≤ 9223372036854775807) :
    am_MetX l g yX4_value (am_W1 yX4_value cX4_value 5 (some .int)) 7 5 119 [.ref 0, vL a, vL b] h (qI fun v h1 => b ≠ 0 ∧ okR h s (aValue s a b) K39 v h1) (xK h s (fun E => E = am_ARE ∧ b = 0)) := by
  have h0 := w.1
  refine am_mkX [some (.ref 0), some (vL a), none, some (vL b), none] 0 hst rfl rfl (by decide +kernel) (fun x hl hg hC hT hTX => ?_)
  have x4 := w.2.2.2.2.1
  have x6 := w.2.2.2.2.2.1
  have ⟨n4, e4⟩ := x4.o
  have ⟨n6, e6⟩ := x6.o
  have za := sznL ha
  have zb := sznL hb
  refine am_lload3 hC dX4_value_0 ?_
  refine am_lconst0 hC dX4_value_1 ?_
  refine am_lif_ne hC 16 dX4_value_2 dX4_value_3 rfl (by omega) (by omega) (fun c3 => ?_) (fun c3 => ?_)
  · refine am_aload0 hC dX4_value_16 ?_
    refine am_getf hC dX4_value_17 fX4_43 h0 rfl ?_
    refine am_lload1 hC dX4_value_20 ?_
    refine am_V1_qN hC 3 dX4_value_21 kX4_79 (m_setMagnitude _ _ x4 ha (by omega)) e4 rfl (Nat.le_of_ble_eq_true rfl) (by decide) (by omega) (by omega) (fun h1 r => ?_)
    obtain ⟨w1, o1⟩ := r
    have v1 := w.w (by omega) o1 w1.cc (by omega)
    have k1 := v1.1
    have x61 := v1.2.2.2.2.2.1
    have ⟨n61, e61⟩ := x61.o
    have H1 : h1.1 = h.1 := o1.1
    refine am_aload0 hC dX4_value_24 ?_
    refine am_getf hC dX4_value_25 fX4_46 k1 rfl ?_
    refine am_lload3 hC dX4_value_28 ?_
    refine am_V1_qN hC 3 dX4_value_29 kX4_79 (m_setMagnitude _ _ x61 hb (by omega)) e61 rfl (Nat.le_of_ble_eq_true rfl) (by decide) (by omega) (by omega) (fun h2 r => ?_)
    obtain ⟨w2, o2⟩ := r
    have v2 := v1.w (by omega) o2 w2.cc (by omega)
    have k2 := v2.1
    have w12 := w1.kept o2 (by simp) (by simp)
    have H2 : h2.1 = h.1 := o2.1.trans H1
    have G2 : gx h h2 K39 := (o1.gx.wk (by simp)).tr (o2.gx.wk (by simp))
    refine am_aload0 hC dX4_value_32 ?_
    refine am_lload1 hC dX4_value_33 ?_
    refine am_lconst0 hC dX4_value_34 ?_
    refine am_lif_ge hC 43 dX4_value_35 dX4_value_36 rfl (by omega) (by omega) (fun c36 => ?_) (fun c36 => ?_)
    · refine am_iconst hC dX4_value_43 ?_
      refine am_lload3 hC dX4_value_44 ?_
      refine am_lconst0 hC dX4_value_45 ?_
      refine am_lif_ge hC 54 dX4_value_46 dX4_value_47 rfl (by omega) (by omega) (fun c47 => ?_) (fun c47 => ?_)
      · refine am_iconst hC dX4_value_54 ?_
        refine am_icmp_ne hC 62 dX4_value_55 rfl (by omega) (by omega) (fun c55 => ?_) (fun c55 => ?_)
        · refine am_iconst hC dX4_value_62 ?_
          refine am_V1_qI hC 4 dX4_value_63 kX4_83 (m_putNew _ _ v2 (by omega) ok.1 w12 w2 (by omega) (by omega) (by omega)) k2 rfl (Nat.le_of_ble_eq_true rfl) (by decide) (by omega) (by omega) (fun v h3 r => ?_)
          obtain ⟨rfl, v3, g3⟩ := r
          first
            | exact am_iret hC hT dX4_value_66 (by omega) (by omega) ⟨_, rfl, by omega, by rw [aValue, if_pos (by simp; omega)], by rw [aValue, if_pos (by simp; omega)]; exact v3, G2.tr (g3.wk kP39)⟩
            | exact am_iret hC hT dX4_value_66 (by omega) (by omega) ⟨_, rfl, by omega, by rw [aValue, if_neg (by simp; omega)], by rw [aValue, if_neg (by simp; omega)]; exact v3, G2.tr (g3.wk kP39)⟩
        · refine am_iconst hC dX4_value_58 ?_
          refine am_goto hC 63 dX4_value_59 rfl ?_
          refine am_V1_qI hC 4 dX4_value_63 kX4_83 (m_putNew _ _ v2 (by omega) ok.1 w12 w2 (by omega) (by omega) (by omega)) k2 rfl (Nat.le_of_ble_eq_true rfl) (by decide) (by omega) (by omega) (fun v h3 r => ?_)
          obtain ⟨rfl, v3, g3⟩ := r
          first
            | exact am_iret hC hT dX4_value_66 (by omega) (by omega) ⟨_, rfl, by omega, by rw [aValue, if_pos (by simp; omega)], by rw [aValue, if_pos (by simp; omega)]; exact v3, G2.tr (g3.wk kP39)⟩
            | exact am_iret hC hT dX4_value_66 (by omega) (by omega) ⟨_, rfl, by omega, by rw [aValue, if_neg (by simp; omega)], by rw [aValue, if_neg (by simp; omega)]; exact v3, G2.tr (g3.wk kP39)⟩
      · refine am_iconst hC dX4_value_50 ?_
        refine am_goto hC 55 dX4_value_51 rfl ?_
        refine am_icmp_ne hC 62 dX4_value_55 rfl (by omega) (by omega) (fun c55 => ?_) (fun c55 => ?_)
        · refine am_iconst hC dX4_value_62 ?_
          refine am_V1_qI hC 4 dX4_value_63 kX4_83 (m_putNew _ _ v2 (by omega) ok.1 w12 w2 (by omega) (by omega) (by omega)) k2 rfl (Nat.le_of_ble_eq_true rfl) (by decide) (by omega) (by omega) (fun v h3 r => ?_)
          obtain ⟨rfl, v3, g3⟩ := r
          first
            | exact am_iret hC hT dX4_value_66 (by omega) (by omega) ⟨_, rfl, by omega, by rw [aValue, if_pos (by simp; omega)], by rw [aValue, if_pos (by simp; omega)]; exact v3, G2.tr (g3.wk kP39)⟩
            | exact am_iret hC hT dX4_value_66 (by omega) (by omega) ⟨_, rfl, by omega, by rw [aValue, if_neg (by simp; omega)], by rw [aValue, if_neg (by simp; omega)]; exact v3, G2.tr (g3.wk kP39)⟩
        · refine am_iconst hC dX4_value_58 ?_
          refine am_goto hC 63 dX4_value_59 rfl ?_
          refine am_V1_qI hC 4 dX4_value_63 kX4_83 (m_putNew _ _ v2 (by omega) ok.1 w12 w2 (by omega) (by omega) (by omega)) k2 rfl (Nat.le_of_ble_eq_true rfl) (by decide) (by omega) (by omega) (fun v h3 r => ?_)
          obtain ⟨rfl, v3, g3⟩ := r
          first
            | exact am_iret hC hT dX4_value_66 (by omega) (by omega) ⟨_, rfl, by omega, by rw [aValue, if_pos (by simp; omega)], by rw [aValue, if_pos (by simp; omega)]; exact v3, G2.tr (g3.wk kP39)⟩
            | exact am_iret hC hT dX4_value_66 (by omega) (by omega) ⟨_, rfl, by omega, by rw [aValue, if_neg (by simp; omega)], by rw [aValue, if_neg (by simp; omega)]; exact v3, G2.tr (g3.wk kP39)⟩
    · refine am_iconst hC dX4_value_39 ?_
      refine am_goto hC 44 dX4_value_40 rfl ?_
      refine am_lload3 hC dX4_value_44 ?_
      refine am_lconst0 hC dX4_value_45 ?_
      refine am_lif_ge hC 54 dX4_value_46 dX4_value_47 rfl (by omega) (by omega) (fun c47 => ?_) (fun c47 => ?_)
      · refine am_iconst hC dX4_value_54 ?_
        refine am_icmp_ne hC 62 dX4_value_55 rfl (by omega) (by omega) (fun c55 => ?_) (fun c55 => ?_)
        · refine am_iconst hC dX4_value_62 ?_
          refine am_V1_qI hC 4 dX4_value_63 kX4_83 (m_putNew _ _ v2 (by omega) ok.1 w12 w2 (by omega) (by omega) (by omega)) k2 rfl (Nat.le_of_ble_eq_true rfl) (by decide) (by omega) (by omega) (fun v h3 r => ?_)
          obtain ⟨rfl, v3, g3⟩ := r
          first
            | exact am_iret hC hT dX4_value_66 (by omega) (by omega) ⟨_, rfl, by omega, by rw [aValue, if_pos (by simp; omega)], by rw [aValue, if_pos (by simp; omega)]; exact v3, G2.tr (g3.wk kP39)⟩
            | exact am_iret hC hT dX4_value_66 (by omega) (by omega) ⟨_, rfl, by omega, by rw [aValue, if_neg (by simp; omega)], by rw [aValue, if_neg (by simp; omega)]; exact v3, G2.tr (g3.wk kP39)⟩
        · refine am_iconst hC dX4_value_58 ?_
          refine am_goto hC 63 dX4_value_59 rfl ?_
          refine am_V1_qI hC 4 dX4_value_63 kX4_83 (m_putNew _ _ v2 (by omega) ok.1 w12 w2 (by omega) (by omega) (by omega)) k2 rfl (Nat.le_of_ble_eq_true rfl) (by decide) (by omega) (by omega) (fun v h3 r => ?_)
          obtain ⟨rfl, v3, g3⟩ := r
          first
            | exact am_iret hC hT dX4_value_66 (by omega) (by omega) ⟨_, rfl, by omega, by rw [aValue, if_pos (by simp; omega)], by rw [aValue, if_pos (by simp; omega)]; exact v3, G2.tr (g3.wk kP39)⟩
            | exact am_iret hC hT dX4_value_66 (by omega) (by omega) ⟨_, rfl, by omega, by rw [aValue, if_neg (by simp; omega)], by rw [aValue, if_neg (by simp; omega)]; exact v3, G2.tr (g3.wk kP39)⟩
      · refine am_iconst hC dX4_value_50 ?_
        refine am_goto hC 55 dX4_value_51 rfl ?_
        refine am_icmp_ne hC 62 dX4_value_55 rfl (by omega) (by omega) (fun c55 => ?_) (fun c55 => ?_)
        · refine am_iconst hC dX4_value_62 ?_
          refine am_V1_qI hC 4 dX4_value_63 kX4_83 (m_putNew _ _ v2 (by omega) ok.1 w12 w2 (by omega) (by omega) (by omega)) k2 rfl (Nat.le_of_ble_eq_true rfl) (by decide) (by omega) (by omega) (fun v h3 r => ?_)
          obtain ⟨rfl, v3, g3⟩ := r
          first
            | exact am_iret hC hT dX4_value_66 (by omega) (by omega) ⟨_, rfl, by omega, by rw [aValue, if_pos (by simp; omega)], by rw [aValue, if_pos (by simp; omega)]; exact v3, G2.tr (g3.wk kP39)⟩
            | exact am_iret hC hT dX4_value_66 (by omega) (by omega) ⟨_, rfl, by omega, by rw [aValue, if_neg (by simp; omega)], by rw [aValue, if_neg (by simp; omega)]; exact v3, G2.tr (g3.wk kP39)⟩
        · refine am_iconst hC dX4_value_58 ?_
          refine am_goto hC 63 dX4_value_59 rfl ?_
          refine am_V1_qI hC 4 dX4_value_63 kX4_83 (m_putNew _ _ v2 (by omega) ok.1 w12 w2 (by omega) (by omega) (by omega)) k2 rfl (Nat.le_of_ble_eq_true rfl) (by decide) (by omega) (by omega) (fun v h3 r => ?_)
          obtain ⟨rfl, v3, g3⟩ := r
          first
            | exact am_iret hC hT dX4_value_66 (by omega) (by omega) ⟨_, rfl, by omega, by rw [aValue, if_pos (by simp; omega)], by rw [aValue, if_pos (by simp; omega)]; exact v3, G2.tr (g3.wk kP39)⟩
            | exact am_iret hC hT dX4_value_66 (by omega) (by omega) ⟨_, rfl, by omega, by rw [aValue, if_neg (by simp; omega)], by rw [aValue, if_neg (by simp; omega)]; exact v3, G2.tr (g3.wk kP39)⟩
  · exact am_throw hC hTX tX4_72_74_76 dX4_value_6 dX4_value_9 dX4_value_10 dX4_value_12 dX4_value_15 (by decide) (by decide) (by omega) (by omega) (fun n1 hn => ⟨⟨rfl, by omega⟩, w.gr hn, gx_gr h hn _⟩)

theorem fF.on {h h1 : am_H} {S : List Nat} {f : Nat} {v : aV} (w : fF h f v) (o : only h h1 S) (q : ∀ j, (j = f ∨ (7 ≤ j ∧ j ≤ 10) ∨ (10 ≤ f ∧ f < j ∧ j ≤ f + 4)) → 0 ≤ j → j ∉ S) : fF h1 f v := by
  obtain ⟨w1, w2, w3⟩ := w
  have r := fp_r f
  exact ⟨by rw [o.2 _ (q _ (by omega) (by omega))]; exact w1, w2.kept o (q _ (by omega) (by omega)) (q _ (by omega) (by omega)), w3.kept o (q _ (by omega) (by omega)) (q _ (by omega) (by omega))⟩
theorem bl1600 {a b : Nat} (ha : bl a ≤ 800) (hb : bl b ≤ 800) : bl (a * b) ≤ 1600 := by
  have h1 := bl_le.mp ha
  have h2 := bl_le.mp hb
  refine bl_le.mpr ?_
  rw [show (1600 : Nat) = 800 + 800 from rfl, Nat.pow_add]
  rcases Nat.eq_zero_or_pos b with c | c
  · subst c; rw [Nat.mul_zero]; exact Nat.mul_pos (Nat.two_pow_pos _) (Nat.two_pow_pos _)
  · exact Nat.lt_of_lt_of_le (Nat.mul_lt_mul_of_pos_right h1 c) (Nat.mul_le_mul_left _ (Nat.le_of_lt h2))
theorem s52 {a b : Nat} (ha : bl a ≤ 800) (hb : bl b ≤ 800) : szn (a * b) ≤ 52 := by
  have := bl1600 ha hb
  have := szn_bl (a * b)
  omega
theorem s53 {a b c d : Nat} (ha : bl a ≤ 800) (hb : bl b ≤ 800) (hc : bl c ≤ 800) (hd : bl d ≤ 800) : szn (a * b + c * d) ≤ 52 := by
  have h1 := bl_le.mp (bl1600 ha hb)
  have h2 := bl_le.mp (bl1600 hc hd)
  have h3 : bl (a * b + c * d) ≤ 1601 := bl_le.mpr (by rw [show (1601 : Nat) = 1600 + 1 from rfl, Nat.pow_succ]; omega)
  have := szn_bl (a * b + c * d)
  omega
def aTimes (s : aS) (i j : Nat) : Int × aS := aPut s ((s.2.1 i).1 * (s.2.1 j).1) ((s.2.1 i).2.1 * (s.2.1 j).2.1) ((s.2.1 i).2.2 * (s.2.1 j).2.2)
def aOver (s : aS) (i j : Nat) : Int × aS := aPut s ((s.2.1 i).1 * (s.2.1 j).1) ((s.2.1 i).2.1 * (s.2.1 j).2.2) ((s.2.1 i).2.2 * (s.2.1 j).2.1)
def aAdd (s : aS) (i j : Nat) : Int × aS :=
  if 0 ≤ (s.2.1 i).1 * (s.2.1 j).1 then aPut s (if (s.2.1 i).1 ≠ 0 then (s.2.1 i).1 else (s.2.1 j).1) ((s.2.1 i).2.1 * (s.2.1 j).2.2 + (s.2.1 j).2.1 * (s.2.1 i).2.2) ((s.2.1 i).2.2 * (s.2.1 j).2.2)
  else if (s.2.1 j).2.1 * (s.2.1 i).2.2 ≤ (s.2.1 i).2.1 * (s.2.1 j).2.2 then aPut s (s.2.1 i).1 ((s.2.1 i).2.1 * (s.2.1 j).2.2 - (s.2.1 j).2.1 * (s.2.1 i).2.2) ((s.2.1 i).2.2 * (s.2.1 j).2.2)
  else aPut s (s.2.1 j).1 ((s.2.1 j).2.1 * (s.2.1 i).2.2 - (s.2.1 i).2.1 * (s.2.1 j).2.2) ((s.2.1 i).2.2 * (s.2.1 j).2.2)
def aOrder (s : aS) (i j : Nat) : Int :=
  if (s.2.1 i).1 = (s.2.1 j).1 then (s.2.1 i).1 * cmpN ((s.2.1 i).2.1 * (s.2.1 j).2.2) ((s.2.1 j).2.1 * (s.2.1 i).2.2) else if (s.2.1 i).1 < (s.2.1 j).1 then -1 else 1
def aBits (s : aS) (i : Nat) : Int := if (s.2.1 i).1 = 0 then 0 else (bl (s.2.1 i).2.1 : Int) + (bl (s.2.1 i).2.2 : Int)
theorem sg3 {a b : Int} (ha : a = -1 ∨ a = 0 ∨ a = 1) (hb : b = -1 ∨ b = 0 ∨ b = 1) : a * b = -1 ∨ a * b = 0 ∨ a * b = 1 := by
  rcases ha with rfl | rfl | rfl <;> rcases hb with rfl | rfl | rfl <;> decide
theorem m_times (l : Launch) (g : am_G) {h : am_H} {s : aS} {i j : Int} (hst : l.stackTraces = false) (w : kS h s) (h47 : 51 ≤ h.1) (ok : aOK s) (hi : IR i) (hj : IR j) :
    am_MetX l g yX4_times (am_W1 yX4_times cX4_times 5 (some .int)) 8 7 131 [.ref 0, vI i, vI j] h (qI fun v h1 => okV i ∧ okV j ∧ okR h s (aTimes s i.toNat j.toNat) K39 v h1) (xK h s (fun E => E = am_AIO ∧ ¬ (okV i ∧ okV j))) := by
  have h0 := w.1
  refine am_mkX [some (.ref 0), some (vI i), some (vI j), none, none] 2 hst rfl rfl (by decide +kernel) (fun x hl hg hC hT hTX => ?_)
  have x4 := w.2.2.2.2.1
  have x6 := w.2.2.2.2.2.1
  have x8 := w.2.2.2.2.2.2.1
  have xT := w.2.2.2.2.2.2.2.1
  have ⟨n4, e4⟩ := x4.o
  have ⟨n8, e8⟩ := x8.o
  refine am_aload0 hC dX4_times_0 ?_
  refine am_iload1 hC dX4_times_1 ?_
  refine am_xV1_qA hC 4 hTX dX4_times_2 kX4_87 (m_fractionAt _ _ (by rw [hl]; exact hst) w hi) h0 rfl (Nat.le_of_ble_eq_true rfl) (by decide) (by omega) (by omega) (xK.wk (gx.rf _ _) (fun E q => ⟨q.1, fun c => q.2 c.1⟩)) (fun r1 hx1 q => ?_)
  obtain ⟨e, oi, r1a, r1b, F⟩ := q
  rw [e]
  clear e hx1
  refine am_astore3 hC dX4_times_5 rfl ?_
  refine am_aload0 hC dX4_times_6 ?_
  refine am_iload2 hC dX4_times_7 ?_
  refine am_xV1_qA hC 4 hTX dX4_times_8 kX4_87 (m_fractionAt _ _ (by rw [hl]; exact hst) w hj) h0 rfl (Nat.le_of_ble_eq_true rfl) (by decide) (by omega) (by omega) (xK.wk (gx.rf _ _) (fun E q => ⟨q.1, fun c => q.2 c.2⟩)) (fun r2 hx2 q => ?_)
  obtain ⟨e, oj, r2a, r2b, F'⟩ := q
  rw [e]
  clear e hx2
  obtain ⟨u, hu⟩ : ∃ u, u = s.2.1 i.toNat := ⟨_, rfl⟩
  obtain ⟨v, hv⟩ : ∃ v, v = s.2.1 j.toNat := ⟨_, rfl⟩
  have ku : vOK u := by rw [hu]; exact ok.2.1 _ (by have := oi.2; have := oi.1; omega)
  have kv : vOK v := by rw [hv]; exact ok.2.1 _ (by have := oj.2; have := oj.1; omega)
  rw [← hu] at F
  rw [← hv] at F'
  obtain ⟨ku1, ku2, ku3, ku4, ku5⟩ := ku
  obtain ⟨kv1, kv2, kv3, kv4, kv5⟩ := kv
  have cu := cap800 ku4
  have cu' := cap800 ku5
  have cv := cap800 kv4
  have cv' := cap800 kv5
  have sg := sg3 ku1 kv1
  have F1 := F.1
  have F1' := F'.1
  have tc1 := w.2.2.2.2.1
  have ⟨tn1, te1⟩ := tc1.o
  refine am_astore4 hC dX4_times_11 rfl ?_
  refine am_aload0 hC dX4_times_13 ?_
  refine am_getf hC dX4_times_14 fX4_43 h0 rfl ?_
  refine am_aload3 hC dX4_times_17 ?_
  refine am_getf hC dX4_times_18 fX4_91 F1 rfl ?_
  refine am_aload4 hC dX4_times_21 ?_
  refine am_getf hC dX4_times_23 fX4_91 F1' rfl ?_
  refine am_V2_qN hC 3 dX4_times_26 kX4_97 (m_setProduct _ _ tc1 F.2.1 F'.2.1 (by omega) (by omega) (by omega)) te1 rfl (Nat.le_of_ble_eq_true rfl) (by decide) (by omega) (by omega) (fun h1 r => ?_)
  obtain ⟨w1, o1⟩ := r
  have v1 := w.w (by omega) o1 w1.cc (by omega)
  have k1 := v1.1
  have H1 : h1.1 = h.1 := o1.1
  have Fa1 := F.on o1 (by intro j _ _; simp; omega)
  have Fb1 := F'.on o1 (by intro j _ _; simp; omega)
  have fa1 := Fa1.1
  have fb1 := Fb1.1
  have tc2 := v1.2.2.2.2.2.1
  have ⟨tn2, te2⟩ := tc2.o
  refine am_aload0 hC dX4_times_29 ?_
  refine am_getf hC dX4_times_30 fX4_46 k1 rfl ?_
  refine am_aload3 hC dX4_times_33 ?_
  refine am_getf hC dX4_times_34 fX4_94 fa1 rfl ?_
  refine am_aload4 hC dX4_times_37 ?_
  refine am_getf hC dX4_times_39 fX4_94 fb1 rfl ?_
  refine am_V2_qN hC 3 dX4_times_42 kX4_97 (m_setProduct _ _ tc2 Fa1.2.2 Fb1.2.2 (by omega) (by omega) (by omega)) te2 rfl (Nat.le_of_ble_eq_true rfl) (by decide) (by omega) (by omega) (fun h2 r => ?_)
  obtain ⟨w2, o2⟩ := r
  have v2 := v1.w (by omega) o2 w2.cc (by omega)
  have k2 := v2.1
  have H2 : h2.1 = h.1 := o2.1.trans H1
  have Fa2 := Fa1.on o2 (by intro j _ _; simp; omega)
  have Fb2 := Fb1.on o2 (by intro j _ _; simp; omega)
  have fa2 := Fa2.1
  have fb2 := Fb2.1
  have w12 := w1.kept o2 (by simp) (by simp)
  have G2 : gx h h2 K39 := (o1.gx.wk (by simp)).tr (o2.gx.wk (by simp))
  refine am_aload0 hC dX4_times_45 ?_
  refine am_aload3 hC dX4_times_46 ?_
  refine am_getf hC dX4_times_47 fX4_101 fa2 rfl ?_
  refine am_aload4 hC dX4_times_50 ?_
  refine am_getf hC dX4_times_52 fX4_101 fb2 rfl ?_
  refine am_imul hC dX4_times_55 ?_
  refine am_V1_qI hC 4 dX4_times_56 kX4_83 (m_putNew _ _ v2 (by omega) ok.1 w12 w2 (Nat.mul_pos ku3 kv3) (Nat.le_trans (s52 ku4 kv4) (by decide)) (Nat.le_trans (s52 ku5 kv5) (by decide))) k2 rfl (Nat.le_of_ble_eq_true rfl) (by decide) (by omega) (by omega) (fun v h3 r => ?_)
  obtain ⟨rfl, v3, g3⟩ := r
  exact am_iret hC hT dX4_times_59 (by omega) (by omega) ⟨_, rfl, oi, oj, by rw [aTimes, ← hu, ← hv], by rw [aTimes, ← hu, ← hv]; exact v3, G2.tr (g3.wk kP39)⟩
theorem m_over (l : Launch) (g : am_G) {h : am_H} {s : aS} {i j : Int} (hst : l.stackTraces = false) (w : kS h s) (h47 : 51 ≤ h.1) (ok : aOK s) (hi : IR i) (hj : IR j) :
    am_MetX l g yX4_over (am_W1 yX4_over cX4_over 5 (some .int)) 8 7 131 [.ref 0, vI i, vI j] h (qI fun v h1 => okV i ∧ okV j ∧ (s.2.1 j.toNat).1 ≠ 0 ∧ okR h s (aOver s i.toNat j.toNat) K39 v h1) (xK h s (fun E => (E = am_AIO ∧ ¬ (okV i ∧ okV j)) ∨ (E = am_ARE ∧ okV i ∧ okV j ∧ (s.2.1 j.toNat).1 = 0))) := by
  have h0 := w.1
  refine am_mkX [some (.ref 0), some (vI i), some (vI j), none, none] 2 hst rfl rfl (by decide +kernel) (fun x hl hg hC hT hTX => ?_)
  have x4 := w.2.2.2.2.1
  have x6 := w.2.2.2.2.2.1
  have x8 := w.2.2.2.2.2.2.1
  have xT := w.2.2.2.2.2.2.2.1
  have ⟨n4, e4⟩ := x4.o
  have ⟨n8, e8⟩ := x8.o
  refine am_aload0 hC dX4_over_0 ?_
  refine am_iload1 hC dX4_over_1 ?_
  refine am_xV1_qA hC 4 hTX dX4_over_2 kX4_87 (m_fractionAt _ _ (by rw [hl]; exact hst) w hi) h0 rfl (Nat.le_of_ble_eq_true rfl) (by decide) (by omega) (by omega) (xK.wk (gx.rf _ _) (fun E q => Or.inl ⟨q.1, fun c => q.2 c.1⟩)) (fun r1 hx1 q => ?_)
  obtain ⟨e, oi, r1a, r1b, F⟩ := q
  rw [e]
  clear e hx1
  refine am_astore3 hC dX4_over_5 rfl ?_
  refine am_aload0 hC dX4_over_6 ?_
  refine am_iload2 hC dX4_over_7 ?_
  refine am_xV1_qA hC 4 hTX dX4_over_8 kX4_87 (m_fractionAt _ _ (by rw [hl]; exact hst) w hj) h0 rfl (Nat.le_of_ble_eq_true rfl) (by decide) (by omega) (by omega) (xK.wk (gx.rf _ _) (fun E q => Or.inl ⟨q.1, fun c => q.2 c.2⟩)) (fun r2 hx2 q => ?_)
  obtain ⟨e, oj, r2a, r2b, F'⟩ := q
  rw [e]
  clear e hx2
  obtain ⟨u, hu⟩ : ∃ u, u = s.2.1 i.toNat := ⟨_, rfl⟩
  obtain ⟨v, hv⟩ : ∃ v, v = s.2.1 j.toNat := ⟨_, rfl⟩
  have ku : vOK u := by rw [hu]; exact ok.2.1 _ (by have := oi.2; have := oi.1; omega)
  have kv : vOK v := by rw [hv]; exact ok.2.1 _ (by have := oj.2; have := oj.1; omega)
  rw [← hu] at F
  rw [← hv] at F'
  obtain ⟨ku1, ku2, ku3, ku4, ku5⟩ := ku
  obtain ⟨kv1, kv2, kv3, kv4, kv5⟩ := kv
  have cu := cap800 ku4
  have cu' := cap800 ku5
  have cv := cap800 kv4
  have cv' := cap800 kv5
  have sg := sg3 ku1 kv1
  have F1 := F.1
  have F1' := F'.1
  refine am_astore4 hC dX4_over_11 rfl ?_
  refine am_aload4 hC dX4_over_13 ?_
  refine am_getf hC dX4_over_15 fX4_101 F1' rfl ?_
  refine am_if_ne hC 31 dX4_over_18 rfl (by omega) (fun c18 => ?_) (fun c18 => ?_)
  · have tc1 := w.2.2.2.2.1
    have ⟨tn1, te1⟩ := tc1.o
    refine am_aload0 hC dX4_over_31 ?_
    refine am_getf hC dX4_over_32 fX4_43 h0 rfl ?_
    refine am_aload3 hC dX4_over_35 ?_
    refine am_getf hC dX4_over_36 fX4_91 F1 rfl ?_
    refine am_aload4 hC dX4_over_39 ?_
    refine am_getf hC dX4_over_41 fX4_94 F1' rfl ?_
    refine am_V2_qN hC 3 dX4_over_44 kX4_97 (m_setProduct _ _ tc1 F.2.1 F'.2.2 (by omega) (by omega) (by omega)) te1 rfl (Nat.le_of_ble_eq_true rfl) (by decide) (by omega) (by omega) (fun h1 r => ?_)
    obtain ⟨w1, o1⟩ := r
    have v1 := w.w (by omega) o1 w1.cc (by omega)
    have k1 := v1.1
    have H1 : h1.1 = h.1 := o1.1
    have Fa1 := F.on o1 (by intro j _ _; simp; omega)
    have Fb1 := F'.on o1 (by intro j _ _; simp; omega)
    have fa1 := Fa1.1
    have fb1 := Fb1.1
    have tc2 := v1.2.2.2.2.2.1
    have ⟨tn2, te2⟩ := tc2.o
    refine am_aload0 hC dX4_over_47 ?_
    refine am_getf hC dX4_over_48 fX4_46 k1 rfl ?_
    refine am_aload3 hC dX4_over_51 ?_
    refine am_getf hC dX4_over_52 fX4_94 fa1 rfl ?_
    refine am_aload4 hC dX4_over_55 ?_
    refine am_getf hC dX4_over_57 fX4_91 fb1 rfl ?_
    refine am_V2_qN hC 3 dX4_over_60 kX4_97 (m_setProduct _ _ tc2 Fa1.2.2 Fb1.2.1 (by omega) (by omega) (by omega)) te2 rfl (Nat.le_of_ble_eq_true rfl) (by decide) (by omega) (by omega) (fun h2 r => ?_)
    obtain ⟨w2, o2⟩ := r
    have v2 := v1.w (by omega) o2 w2.cc (by omega)
    have k2 := v2.1
    have H2 : h2.1 = h.1 := o2.1.trans H1
    have Fa2 := Fa1.on o2 (by intro j _ _; simp; omega)
    have Fb2 := Fb1.on o2 (by intro j _ _; simp; omega)
    have fa2 := Fa2.1
    have fb2 := Fb2.1
    have w12 := w1.kept o2 (by simp) (by simp)
    have G2 : gx h h2 K39 := (o1.gx.wk (by simp)).tr (o2.gx.wk (by simp))
    have p2 : 0 < v.2.1 := Nat.pos_of_ne_zero (fun c => c18 (kv2.mpr c))
    refine am_aload0 hC dX4_over_63 ?_
    refine am_aload3 hC dX4_over_64 ?_
    refine am_getf hC dX4_over_65 fX4_101 fa2 rfl ?_
    refine am_aload4 hC dX4_over_68 ?_
    refine am_getf hC dX4_over_70 fX4_101 fb2 rfl ?_
    refine am_imul hC dX4_over_73 ?_
    refine am_V1_qI hC 4 dX4_over_74 kX4_83 (m_putNew _ _ v2 (by omega) ok.1 w12 w2 (Nat.mul_pos ku3 p2) (Nat.le_trans (s52 ku4 kv5) (by decide)) (Nat.le_trans (s52 ku5 kv4) (by decide))) k2 rfl (Nat.le_of_ble_eq_true rfl) (by decide) (by omega) (by omega) (fun v h3 r => ?_)
    obtain ⟨rfl, v3, g3⟩ := r
    exact am_iret hC hT dX4_over_77 (by omega) (by omega) ⟨_, rfl, oi, oj, by rw [← hv]; exact c18, by rw [aOver, ← hu, ← hv], by rw [aOver, ← hu, ← hv]; exact v3, G2.tr (g3.wk kP39)⟩
  · exact am_throw hC hTX tX4_72_74_76 dX4_over_21 dX4_over_24 dX4_over_25 dX4_over_27 dX4_over_30 (by decide) (by decide) (by omega) (by omega) (fun n1 hn => ⟨Or.inr ⟨rfl, oi, oj, by rw [← hv]; omega⟩, w.gr hn, gx_gr h hn _⟩)

/-! Measure: steps in longs, foreseen steps, their doing -/
abbrev mS (mv : Nat) : List Nat := [mv, mv + 2, mv + 3, mv + 4, mv + 5, mv + 6, mv + 7, mv + 8, mv + 9, mv + 10, mv + 11]
def mO (mv : Nat) (A B C D : Int) : am_E := eO 2 [.ref (mv + 1), .ref (mv + 8), .ref (mv + 10), vL A, vL B, vL C, vL D]
theorem m_finish (l : Launch) (g : am_G) {h : am_H} {mv a b : Nat} {A B C D : Int} (h0 : h.2 mv = some (mO mv A B C D)) (wx : wN h (mv + 8) 56 a) (wy : wN h (mv + 10) 56 b) (hb : 0 < b) (hab : b ≤ a) (ha : a < 2 ^ 62) :
    am_Met l g yX2_finishInLongs (am_W1 yX2_finishInLongs cX2_finishInLongs 8 none) 4 0 0 [.ref mv] h (qN fun h1 => (∃ a' b', Eu a b a' b' ∧ wN h1 (mv + 8) 56 a' ∧ wN h1 (mv + 10) 56 b') ∧ only h h1 [mv + 8, mv + 9, mv + 10, mv + 11]) := by
  refine am_mk [some (.ref mv), none, none, none, none, none, none, none] 7 rfl rfl (by decide +kernel) (fun z hl hg hC hT _ => ?_)
  have fin : ∀ (p q : Nat) (y5 y6 y7 : Option Value), Eu a b p q → am_W z 50 0 0 h [some (.ref mv), some (vL (p : Int)), none, some (vL (q : Int)), none, y5, y6, y7] [] := by
    intro p q y5 y6 y7 he
    have hp : p ≤ 9223372036854775807 := Nat.le_trans (Nat.le_trans he.2.2.2 (Nat.le_of_lt ha)) (by decide)
    have hq : q ≤ 9223372036854775807 := Nat.le_trans he.2.1 hp
    have zp : szn p ≤ 3 := szn_le.mpr (Nat.lt_of_le_of_lt hp (by decide))
    have zq : szn q ≤ 3 := szn_le.mpr (Nat.lt_of_le_of_lt hq (by decide))
    refine am_aload0 hC dX2_finishInLongs_50 ?_
    refine am_getf hC dX2_finishInLongs_51 fX2_21 h0 rfl ?_
    refine am_lload1 hC dX2_finishInLongs_54 ?_
    refine am_V1_qN hC 3 dX2_finishInLongs_55 kX2_64 (m_setMagnitude _ _ (v := (p : Int)) wx.cc (by omega) (by rw [Int.natAbs_natCast]; omega)) wx.o rfl (Nat.le_of_ble_eq_true rfl) (by decide) (Nat.le_refl _) (Nat.le_refl _) (fun h1 r => ?_)
    obtain ⟨w1, o1⟩ := r
    rw [Int.natAbs_natCast] at w1
    have h01 : h1.2 mv = some (mO mv A B C D) := by rw [o1.2 _ (by simp <;> omega)]; exact h0
    have wy1 := wy.kept o1 (by simp) (by simp)
    refine am_aload0 hC dX2_finishInLongs_58 ?_
    refine am_getf hC dX2_finishInLongs_59 fX2_25 h01 rfl ?_
    refine am_lload3 hC dX2_finishInLongs_62 ?_
    refine am_V1_qN hC 3 dX2_finishInLongs_63 kX2_64 (m_setMagnitude _ _ (v := (q : Int)) wy1.cc (by omega) (by rw [Int.natAbs_natCast]; omega)) wy1.o rfl (Nat.le_of_ble_eq_true rfl) (by decide) (Nat.le_refl _) (Nat.le_refl _) (fun h2 r => ?_)
    obtain ⟨w2, o2⟩ := r
    rw [Int.natAbs_natCast] at w2
    exact am_vret hC hT dX2_finishInLongs_66 (Nat.le_refl _) (Nat.le_refl _) ⟨rfl, ⟨p, q, he, w1.kept o2 (by simp) (by simp), w2⟩, (o1.wk (by simp)).tr (o2.wk (by simp))⟩
  have loop : ∀ (m i p q : Nat) (y6 y7 : Option Value), i + m = 100 → ((i = 0 ∧ p = a ∧ q = b) ∨ Eu a b p q) → am_W z 21 0 0 h [some (.ref mv), some (vL (p : Int)), none, some (vL (q : Int)), none, some (vI (i : Int)), y6, y7] [] := by
    intro m
    induction m with
    | zero =>
      intro i p q y6 y7 hi he
      refine am_iload5 hC dX2_finishInLongs_21 ?_
      refine am_bipush hC dX2_finishInLongs_23 rfl ?_
      refine am_icmp_ge hC 50 dX2_finishInLongs_25 rfl (by omega) (by omega) (fun c25 => ?_) (fun c25 => ?_)
      · refine fin p q _ _ _ ?_
        rcases he with e | e
        · omega
        · exact e
      · exact absurd c25 (by omega)
    | succ m ih =>
      intro i p q y6 y7 hi he
      have hpq : q ≤ p ∧ p ≤ a := by
        rcases he with ⟨-, rfl, rfl⟩ | e
        · exact ⟨hab, Nat.le_refl _⟩
        · exact ⟨e.2.1, e.2.2.2⟩
      have ha' : (a : Int) < 4611686018427387904 := by omega
      have em : 0 < q → ((p : Int)).tmod (q : Int) = ((p % q : Nat) : Int) := fun _ => by rw [Int.tmod_eq_emod_of_nonneg (by omega)]; exact (Int.natCast_emod _ _).symm
      refine am_iload5 hC dX2_finishInLongs_21 ?_
      refine am_bipush hC dX2_finishInLongs_23 rfl ?_
      refine am_icmp_ge hC 50 dX2_finishInLongs_25 rfl (by omega) (by omega) (fun c25 => ?_) (fun c25 => ?_)
      · exact absurd c25 (by omega)
      · refine am_lload3 hC dX2_finishInLongs_28 ?_
        refine am_lconst0 hC dX2_finishInLongs_29 ?_
        refine am_lif_le hC 50 dX2_finishInLongs_30 dX2_finishInLongs_31 rfl (by omega) (by omega) (fun c31 => ?_) (fun c31 => ?_)
        · refine fin p q _ _ _ ?_
          rcases he with ⟨-, rfl, rfl⟩ | e
          · omega
          · exact e
        · refine am_lload1 hC dX2_finishInLongs_34 ?_
          refine am_lload3 hC dX2_finishInLongs_35 ?_
          refine am_lrem hC dX2_finishInLongs_36 (by omega) (by omega) (by omega) ?_
          rw [em (by omega)]
          refine am_lstore6 hC dX2_finishInLongs_37 rfl ?_
          refine am_lload3 hC dX2_finishInLongs_39 ?_
          refine am_lstore1 hC dX2_finishInLongs_40 rfl ?_
          refine am_lload6 hC dX2_finishInLongs_41 ?_
          refine am_lstore3 hC dX2_finishInLongs_43 rfl ?_
          refine am_iinc5 hC dX2_finishInLongs_44 rfl ?_
          refine am_goto hC 21 dX2_finishInLongs_47 rfl ?_
          rw [show (i : Int) + 1 = ((i + 1 : Nat) : Int) by omega]
          refine ih (i + 1) q (p % q) _ _ (by omega) (Or.inr ?_)
          have st := Eu.step (a := p) (b := q) (by omega) hpq.1
          rcases he with ⟨-, rfl, rfl⟩ | e
          · exact st
          · exact e.tr st
  have m62 : a / 2 ^ 0 % 2 ^ 62 = a := by rw [Nat.pow_zero, Nat.div_one, Nat.mod_eq_of_lt ha]
  have m62b : b / 2 ^ 0 % 2 ^ 62 = b := by rw [Nat.pow_zero, Nat.div_one, Nat.mod_eq_of_lt (Nat.lt_of_le_of_lt hab ha)]
  refine am_aload0 hC dX2_finishInLongs_0 ?_
  refine am_getf hC dX2_finishInLongs_1 fX2_21 h0 rfl ?_
  refine am_iconst hC dX2_finishInLongs_4 ?_
  refine am_V1_pL hC 3 dX2_finishInLongs_5 kX2_60 (m_window _ _ (s := 0) wx (by decide)) wx.o rfl (Nat.le_of_ble_eq_true rfl) (by decide) (Nat.le_refl _) (Nat.le_refl _) ?_
  rw [m62]
  refine am_lstore1 hC dX2_finishInLongs_8 rfl ?_
  refine am_aload0 hC dX2_finishInLongs_9 ?_
  refine am_getf hC dX2_finishInLongs_10 fX2_25 h0 rfl ?_
  refine am_iconst hC dX2_finishInLongs_13 ?_
  refine am_V1_pL hC 3 dX2_finishInLongs_14 kX2_60 (m_window _ _ (s := 0) wy (by decide)) wy.o rfl (Nat.le_of_ble_eq_true rfl) (by decide) (Nat.le_refl _) (Nat.le_refl _) ?_
  rw [m62b]
  refine am_lstore3 hC dX2_finishInLongs_17 rfl ?_
  refine am_iconst hC dX2_finishInLongs_18 ?_
  refine am_istore5 hC dX2_finishInLongs_19 rfl ?_
  exact loop 100 0 a b _ _ rfl (Or.inl ⟨rfl, rfl, rfl⟩)
theorem mO_set3 (mv : Nat) (A B C D v : Int) (h : am_H) (i : Nat) : am_up h i (eO 2 ([Value.ref (mv + 1), .ref (mv + 8), .ref (mv + 10), vL A, vL B, vL C, vL D].set 3 (vL v))) = am_up h i (mO mv v B C D) := rfl
theorem mO_set4 (mv : Nat) (A B C D v : Int) (h : am_H) (i : Nat) : am_up h i (eO 2 ([Value.ref (mv + 1), .ref (mv + 8), .ref (mv + 10), vL A, vL B, vL C, vL D].set 4 (vL v))) = am_up h i (mO mv A v C D) := rfl
theorem mO_set5 (mv : Nat) (A B C D v : Int) (h : am_H) (i : Nat) : am_up h i (eO 2 ([Value.ref (mv + 1), .ref (mv + 8), .ref (mv + 10), vL A, vL B, vL C, vL D].set 5 (vL v))) = am_up h i (mO mv A B v D) := rfl
theorem mO_set6 (mv : Nat) (A B C D v : Int) (h : am_H) (i : Nat) : am_up h i (eO 2 ([Value.ref (mv + 1), .ref (mv + 8), .ref (mv + 10), vL A, vL B, vL C, vL D].set 6 (vL v))) = am_up h i (mO mv A B C v) := rfl
def leF (a b : Nat) (A B C D : Int) : Prop := ∃ X Y : Nat, (X : Int) = A * a + B * b ∧ (Y : Int) = C * a + D * b ∧ Eu a b X Y ∧ A.natAbs ≤ 2147483647 ∧ B.natAbs ≤ 2147483647 ∧ C.natAbs ≤ 2147483647 ∧ D.natAbs ≤ 2147483647
theorem m_foresee (l : Launch) (g : am_G) {h : am_H} {mv a b : Nat} {A0 B0 C0 D0 : Int} (h0 : h.2 mv = some (mO mv A0 B0 C0 D0)) (wx : wN h (mv + 8) 56 a) (wy : wN h (mv + 10) 56 b) (hab : b ≤ a) (ha : 62 < bl a) (hz : szn a ≤ 54) :
    am_Met l g yX2_foreseeSteps (am_W1 yX2_foreseeSteps cX2_foreseeSteps 15 (some .boolean)) 4 0 0 [.ref mv] h (qI fun v h1 => (v = 0 ∨ v = 1) ∧ ∃ (A B C D : Int), h1 = am_up h mv (mO mv A B C D) ∧ (v = 1 → leF a b A B C D)) := by
  have hbl : bl a ≤ 1674 := by have := szn_bl a; omega
  obtain ⟨s, hs⟩ : ∃ s, s = bl a - 62 := ⟨_, rfl⟩
  have hxa : a / 2 ^ s < 2 ^ 62 := by
    rw [Nat.div_lt_iff_lt_mul (Nat.two_pow_pos s), ← Nat.pow_add, show 62 + s = bl a by omega]
    exact bl_le.mp (Nat.le_refl _)
  have hyb : b / 2 ^ s < 2 ^ 62 := Nat.lt_of_le_of_lt (Nat.div_le_div_right hab) hxa
  obtain ⟨xh, hxh⟩ : ∃ xh, xh = a / 2 ^ s := ⟨_, rfl⟩
  obtain ⟨yh, hyh⟩ : ∃ yh, yh = b / 2 ^ s := ⟨_, rfl⟩
  have hPp : (0 : Int) < ((2 ^ s : Nat) : Int) := by exact_mod_cast Nat.two_pow_pos s
  have ea : (a : Int) = (xh : Int) * ((2 ^ s : Nat) : Int) + ((a % 2 ^ s : Nat) : Int) := by
    have := Nat.div_add_mod a (2 ^ s)
    rw [← hxh, Nat.mul_comm] at this
    exact_mod_cast this.symm
  have eb : (b : Int) = (yh : Int) * ((2 ^ s : Nat) : Int) + ((b % 2 ^ s : Nat) : Int) := by
    have := Nat.div_add_mod b (2 ^ s)
    rw [← hyh, Nat.mul_comm] at this
    exact_mod_cast this.symm
  have hx : 0 ≤ ((a % 2 ^ s : Nat) : Int) ∧ ((a % 2 ^ s : Nat) : Int) < ((2 ^ s : Nat) : Int) := ⟨Int.natCast_nonneg _, by exact_mod_cast Nat.mod_lt _ (Nat.two_pow_pos s)⟩
  have hy : 0 ≤ ((b % 2 ^ s : Nat) : Int) ∧ ((b % 2 ^ s : Nat) : Int) < ((2 ^ s : Nat) : Int) := ⟨Int.natCast_nonneg _, by exact_mod_cast Nat.mod_lt _ (Nat.two_pow_pos s)⟩
  have hxl : (xh : Int) < 4611686018427387904 := by rw [hxh]; have h9 : a / 2 ^ s < 4611686018427387904 := hxa; exact Int.ofNat_lt.mpr h9
  refine am_mk [some (.ref mv), none, none, none, none, none, none, none, none, none, none, none, none, none, none] 14 rfl rfl (by decide +kernel) (fun z hl hg hC hT _ => ?_)
  have at' : ∀ A B C D : Int, (am_up h mv (mO mv A B C D)).2 mv = some (mO mv A B C D) := fun A B C D => am_up_at _ _ _
  have fin : ∀ (g0 l0 A B C D : Int) (X Y : Nat) (y6 y7 y8 y9 y10 y11 y12 y13 y14 : Option Value), leI a b xh yh g0 l0 A B C D X Y → am_W z 240 0 0 (am_up h mv (mO mv A B C D)) [some (.ref mv), some (vI (s : Int)), some (vL g0), none, some (vL l0), none, y6, y7, y8, y9, y10, y11, y12, y13, y14] [] := by
    intro g0 l0 A B C D X Y y6 y7 y8 y9 y10 y11 y12 y13 y14 hi
    have hm := at' A B C D
    have hB := hi.2.2.2.2.2.2.2.1
    refine am_aload0 hC dX2_foreseeSteps_240 ?_
    refine am_getf hC dX2_foreseeSteps_241 fX2_78 hm rfl ?_
    refine am_lconst0 hC dX2_foreseeSteps_244 ?_
    refine am_lif_eq hC 253 dX2_foreseeSteps_245 dX2_foreseeSteps_246 rfl (by omega) (by omega) (fun c246 => ?_) (fun c246 => ?_)
    · refine am_iconst hC dX2_foreseeSteps_253 ?_
      first
        | exact am_zret hC hT dX2_foreseeSteps_254 (by omega) (Nat.le_refl _) (Nat.le_refl _) ⟨_, rfl, by omega, A, B, C, D, rfl, fun e => absurd e (by omega)⟩
        | exact am_zret hC hT dX2_foreseeSteps_254 (by omega) (Nat.le_refl _) (Nat.le_refl _) ⟨_, rfl, by omega, A, B, C, D, rfl, fun _ => by unfold leF; exact ⟨X, Y, hi.1, hi.2.1, hi.2.2.2.2.2.2.2.2.1.resolve_left (by omega), hB⟩⟩
    · refine am_iconst hC dX2_foreseeSteps_249 ?_
      refine am_goto hC 254 dX2_foreseeSteps_250 rfl ?_
      first
        | exact am_zret hC hT dX2_foreseeSteps_254 (by omega) (Nat.le_refl _) (Nat.le_refl _) ⟨_, rfl, by omega, A, B, C, D, rfl, fun e => absurd e (by omega)⟩
        | exact am_zret hC hT dX2_foreseeSteps_254 (by omega) (Nat.le_refl _) (Nat.le_refl _) ⟨_, rfl, by omega, A, B, C, D, rfl, fun _ => by unfold leF; exact ⟨X, Y, hi.1, hi.2.1, hi.2.2.2.2.2.2.2.2.1.resolve_left (by omega), hB⟩⟩
  have loop : ∀ (m i : Nat) (g0 l0 A B C D : Int) (X Y : Nat) (y7 y8 y9 y10 y11 y12 y13 y14 : Option Value) (n8 : am_n2 y8 = true) (n10 : am_n2 y10 = true) (n12 : am_n2 y12 = true), i + m = 100 → leI a b xh yh g0 l0 A B C D X Y → am_W z 57 0 0 (am_up h mv (mO mv A B C D)) [some (.ref mv), some (vI (s : Int)), some (vL g0), none, some (vL l0), none, some (vI (i : Int)), y7, y8, y9, y10, y11, y12, y13, y14] [] := by
    intro m
    induction m with
    | zero =>
      intro i g0 l0 A B C D X Y y7 y8 y9 y10 y11 y12 y13 y14 n8 n10 n12 hi he
      refine am_iload6 hC dX2_foreseeSteps_57 ?_
      refine am_bipush hC dX2_foreseeSteps_59 rfl ?_
      refine am_icmp_ge hC 240 dX2_foreseeSteps_61 rfl (by omega) (by omega) (fun c61 => ?_) (fun c61 => ?_)
      · exact fin _ _ _ _ _ _ X Y _ _ _ _ _ _ _ _ _ he
      · exact absurd c61 (by omega)
    | succ m ih =>
      intro i g0 l0 A B C D X Y y7 y8 y9 y10 y11 y12 y13 y14 n8 n10 n12 hi he
      have hm := at' A B C D
      have rg := he.rng hPp ea eb hx hy hxl
      have hB := he.2.2.2.2.2.2.2.1
      have qr : ∀ u v : Int, -4611686018427387904 ≤ u → u ≤ 4611686022722355199 → 0 < v → -4611686018427387904 ≤ u.tdiv v ∧ u.tdiv v ≤ 4611686022722355199 := by
        intro u v hu hu2 hv
        rcases Int.lt_or_le u 0 with c | c
        · rw [show u = -(-u) by omega, Int.neg_tdiv]
          have t1 := Int.tdiv_nonneg (a := -u) (b := v) (by omega) (by omega)
          have t2 : (-u).tdiv v ≤ -u := by rw [Int.tdiv_eq_ediv_of_nonneg (by omega)]; exact Int.ediv_le_self _ (by omega)
          omega
        · have t1 := Int.tdiv_nonneg (a := u) (b := v) c (by omega)
          have t2 : u.tdiv v ≤ u := by rw [Int.tdiv_eq_ediv_of_nonneg c]; exact Int.ediv_le_self _ c
          omega
      have mr : ∀ q u : Int, -4611686018427387904 ≤ q → q ≤ 2147483647 → 1 ≤ q → u.natAbs ≤ 2147483647 → -4611686014132420609 ≤ q * u ∧ q * u ≤ 4611686014132420609 := by
        intro q u _ h2 h3 h4
        have h5 : (q * u).natAbs ≤ 2147483647 * 2147483647 := by
          rw [Int.natAbs_mul]; exact Nat.mul_le_mul (by omega) h4
        omega
      refine am_iload6 hC dX2_foreseeSteps_57 ?_
      refine am_bipush hC dX2_foreseeSteps_59 rfl ?_
      refine am_icmp_ge hC 240 dX2_foreseeSteps_61 rfl (by omega) (by omega) (fun c61 => ?_) (fun c61 => ?_)
      · exact absurd c61 (by omega)
      · refine am_lload4 hC dX2_foreseeSteps_64 ?_
        refine am_aload0 hC dX2_foreseeSteps_66 ?_
        refine am_getf hC dX2_foreseeSteps_67 fX2_81 hm rfl ?_
        refine am_ladd hC dX2_foreseeSteps_70 ?_
        refine am_lconst0 hC dX2_foreseeSteps_71 ?_
        refine am_lif_le hC 240 dX2_foreseeSteps_72 dX2_foreseeSteps_73 rfl (by omega) (by omega) (fun c73 => ?_) (fun c73 => ?_)
        · exact fin _ _ _ _ _ _ X Y _ _ _ _ _ _ _ _ _ he
        · refine am_lload4 hC dX2_foreseeSteps_76 ?_
          refine am_aload0 hC dX2_foreseeSteps_78 ?_
          refine am_getf hC dX2_foreseeSteps_79 fX2_84 hm rfl ?_
          refine am_ladd hC dX2_foreseeSteps_82 ?_
          refine am_lconst0 hC dX2_foreseeSteps_83 ?_
          refine am_lif_gt hC 91 dX2_foreseeSteps_84 dX2_foreseeSteps_85 rfl (by omega) (by omega) (fun c85 => ?_) (fun c85 => ?_)
          · refine am_lload2 hC dX2_foreseeSteps_91 ?_
            refine am_aload0 hC dX2_foreseeSteps_92 ?_
            refine am_getf hC dX2_foreseeSteps_93 fX2_74 hm rfl ?_
            refine am_ladd hC dX2_foreseeSteps_96 ?_
            refine am_lload4 hC dX2_foreseeSteps_97 ?_
            refine am_aload0 hC dX2_foreseeSteps_99 ?_
            refine am_getf hC dX2_foreseeSteps_100 fX2_81 hm rfl ?_
            refine am_ladd hC dX2_foreseeSteps_103 ?_
            have q1 := qr (g0 + A) (l0 + C) (by omega) (by omega) (by omega)
            have q2 := qr (g0 + B) (l0 + D) (by omega) (by omega) (by omega)
            refine am_ldiv hC dX2_foreseeSteps_104 (by omega) (by omega) (by omega) ?_
            obtain ⟨q, hq⟩ : ∃ q, q = (g0 + A).tdiv (l0 + C) := ⟨_, rfl⟩
            rw [← hq] at q1 ⊢
            refine am_lstore7 hC dX2_foreseeSteps_105 rfl ?_
            refine am_lload7 hC dX2_foreseeSteps_107 ?_
            refine am_ldc2 hC (2147483647) dX2_foreseeSteps_109 cX2_87 rfl ?_
            refine am_lif_gt hC 240 dX2_foreseeSteps_112 dX2_foreseeSteps_113 rfl (by omega) (by omega) (fun c113 => ?_) (fun c113 => ?_)
            · exact fin _ _ _ _ _ _ X Y _ _ _ _ _ _ _ _ _ he
            · refine am_lload7 hC dX2_foreseeSteps_116 ?_
              refine am_lload2 hC dX2_foreseeSteps_118 ?_
              refine am_aload0 hC dX2_foreseeSteps_119 ?_
              refine am_getf hC dX2_foreseeSteps_120 fX2_78 hm rfl ?_
              refine am_ladd hC dX2_foreseeSteps_123 ?_
              refine am_lload4 hC dX2_foreseeSteps_124 ?_
              refine am_aload0 hC dX2_foreseeSteps_126 ?_
              refine am_getf hC dX2_foreseeSteps_127 fX2_84 hm rfl ?_
              refine am_ladd hC dX2_foreseeSteps_130 ?_
              refine am_ldiv hC dX2_foreseeSteps_131 (by omega) (by omega) (by omega) ?_
              refine am_lif_eq hC 139 dX2_foreseeSteps_132 dX2_foreseeSteps_133 rfl (by omega) (by omega) (fun c133 => ?_) (fun c133 => ?_)
              · have lq : 1 ≤ q := by
                  rcases Int.lt_or_le q 1 with c | c
                  · exfalso
                    obtain ⟨h1, h2, h3, h4, h5, h6, h7, h8, h9, h10⟩ := he
                    have hu : ∀ {gu lu gl ll : Int}, (X : Int) ≤ ((2 ^ s : Nat) : Int) * gu → ((2 ^ s : Nat) : Int) * lu ≤ Y → 0 < lu → ((2 ^ s : Nat) : Int) * gl ≤ X → (Y : Int) ≤ ((2 ^ s : Nat) : Int) * ll → 0 < ll → gu.tdiv lu = q → gl.tdiv ll = q → False := fun a1 a2 a3 a4 a5 a6 a7 a8 => by
                      have := (leh_q hPp a1 a2 a3 a4 a5 a6 (by omega) a7 a8).1
                      omega
                    rcases h7 with r | r
                    · have b1 := leh_b (A := A) (B := B) ea eb hx hy ⟨r.1, r.2.1⟩
                      have b2 := leh_b' (A := C) (B := D) ea eb hx hy ⟨r.2.2.1, r.2.2.2⟩
                      rw [← h1, ← h3] at b1
                      rw [← h2, ← h4] at b2
                      exact hu b1.2 b2.1 (by omega) b1.1 b2.2 (by omega) hq.symm c133.symm
                    · have b1 := leh_b' (A := A) (B := B) ea eb hx hy ⟨r.1, r.2.1⟩
                      have b2 := leh_b (A := C) (B := D) ea eb hx hy ⟨r.2.2.1, r.2.2.2⟩
                      rw [← h1, ← h3] at b1
                      rw [← h2, ← h4] at b2
                      exact hu b1.2 b2.1 (by omega) b1.1 b2.2 (by omega) c133.symm hq.symm
                  · exact c
                have m1 := mr q C (by omega) (by omega) lq hB.2.2.1
                have m2 := mr q D (by omega) (by omega) lq hB.2.2.2
                refine am_aload0 hC dX2_foreseeSteps_139 ?_
                refine am_getf hC dX2_foreseeSteps_140 fX2_74 hm rfl ?_
                refine am_lload7 hC dX2_foreseeSteps_143 ?_
                refine am_aload0 hC dX2_foreseeSteps_145 ?_
                refine am_getf hC dX2_foreseeSteps_146 fX2_81 hm rfl ?_
                refine am_lmul hC dX2_foreseeSteps_149 ?_
                refine am_lsub hC dX2_foreseeSteps_150 ?_
                refine am_lstore9 hC dX2_foreseeSteps_151 rfl ?_
                refine am_aload0 hC dX2_foreseeSteps_153 ?_
                refine am_getf hC dX2_foreseeSteps_154 fX2_78 hm rfl ?_
                refine am_lload7 hC dX2_foreseeSteps_157 ?_
                refine am_aload0 hC dX2_foreseeSteps_159 ?_
                refine am_getf hC dX2_foreseeSteps_160 fX2_84 hm rfl ?_
                refine am_lmul hC dX2_foreseeSteps_163 ?_
                refine am_lsub hC dX2_foreseeSteps_164 ?_
                refine am_lstore11 hC dX2_foreseeSteps_165 rfl ?_
                refine am_lload9 hC dX2_foreseeSteps_167 ?_
                refine am_S1_pL hC dX2_foreseeSteps_169 kX2_89 (m_abs _ _ _ (by omega)) (Nat.le_of_ble_eq_true rfl) (by decide) (Nat.le_refl _) (Nat.le_refl _) ?_
                refine am_lload11 hC dX2_foreseeSteps_172 ?_
                refine am_S1_pL hC dX2_foreseeSteps_174 kX2_89 (m_abs _ _ _ (by omega)) (Nat.le_of_ble_eq_true rfl) (by decide) (Nat.le_refl _) (Nat.le_refl _) ?_
                obtain ⟨u1, hu1⟩ : ∃ u1, u1 = (if A - q * C < 0 then -(A - q * C) else A - q * C) := ⟨_, rfl⟩
                obtain ⟨u2, hu2⟩ : ∃ u2, u2 = (if B - q * D < 0 then -(B - q * D) else B - q * D) := ⟨_, rfl⟩
                rw [← hu1, ← hu2]
                have v1 : u1 = ((A - q * C).natAbs : Int) := by rw [hu1]; split <;> omega
                have v2 : u2 = ((B - q * D).natAbs : Int) := by rw [hu2]; split <;> omega
                refine am_S2_pL hC dX2_foreseeSteps_177 kX2_93 (m_maxL _ _ _ (by omega) (by omega)) (Nat.le_of_ble_eq_true rfl) (by decide) (Nat.le_refl _) (Nat.le_refl _) ?_
                refine am_ldc2 hC (2147483647) dX2_foreseeSteps_180 cX2_87 rfl ?_
                refine am_lif_le hC 190 dX2_foreseeSteps_183 dX2_foreseeSteps_184 rfl (by omega) (by omega) (fun c184 => ?_) (fun c184 => ?_)
                · have stp := he.step hPp ea eb hx hy (by omega) (by omega) hq.symm c133.symm (by omega) (by omega)
                  obtain ⟨Y', he'⟩ := stp
                  refine am_aload0 hC dX2_foreseeSteps_190 ?_
                  refine am_aload0 hC dX2_foreseeSteps_191 ?_
                  refine am_getf hC dX2_foreseeSteps_192 fX2_81 hm rfl ?_
                  refine am_putf hC dX2_foreseeSteps_195 pX2_74 (fun q => by cases q) hm (am_fitL _) (Nat.le_of_ble_eq_true rfl) ?_
                  rw [mO_set3, am_up_up]
                  have hm := at' C B C D
                  refine am_aload0 hC dX2_foreseeSteps_198 ?_
                  refine am_aload0 hC dX2_foreseeSteps_199 ?_
                  refine am_getf hC dX2_foreseeSteps_200 fX2_84 hm rfl ?_
                  refine am_putf hC dX2_foreseeSteps_203 pX2_78 (fun q => by cases q) hm (am_fitL _) (Nat.le_of_ble_eq_true rfl) ?_
                  rw [mO_set4, am_up_up]
                  have hm := at' C D C D
                  refine am_aload0 hC dX2_foreseeSteps_206 ?_
                  refine am_lload9 hC dX2_foreseeSteps_207 ?_
                  refine am_putf hC dX2_foreseeSteps_209 pX2_81 (fun q => by cases q) hm (am_fitL _) (Nat.le_of_ble_eq_true rfl) ?_
                  rw [mO_set5, am_up_up]
                  have hm := at' C D (A - q * C) D
                  refine am_aload0 hC dX2_foreseeSteps_212 ?_
                  refine am_lload11 hC dX2_foreseeSteps_213 ?_
                  refine am_putf hC dX2_foreseeSteps_215 pX2_84 (fun q => by cases q) hm (am_fitL _) (Nat.le_of_ble_eq_true rfl) ?_
                  rw [mO_set6, am_up_up]
                  refine am_lload2 hC dX2_foreseeSteps_218 ?_
                  refine am_lload7 hC dX2_foreseeSteps_219 ?_
                  refine am_lload4 hC dX2_foreseeSteps_221 ?_
                  refine am_lmul hC dX2_foreseeSteps_223 ?_
                  refine am_lsub hC dX2_foreseeSteps_224 ?_
                  refine am_lstore13 hC dX2_foreseeSteps_225 rfl ?_
                  refine am_lload4 hC dX2_foreseeSteps_227 ?_
                  refine am_lstore2 hC dX2_foreseeSteps_229 rfl ?_
                  refine am_lload13 hC dX2_foreseeSteps_230 ?_
                  refine am_lstore4 hC dX2_foreseeSteps_232 rfl ?_
                  refine am_iinc6 hC dX2_foreseeSteps_234 rfl ?_
                  refine am_goto hC 57 dX2_foreseeSteps_237 rfl ?_
                  rw [show (i : Int) + 1 = ((i + 1 : Nat) : Int) by omega]
                  exact ih (i + 1) _ _ _ _ _ _ Y Y' _ _ _ _ _ _ _ _ rfl rfl rfl (by omega) he'
                · refine am_goto hC 240 dX2_foreseeSteps_187 rfl ?_
                  exact fin _ _ _ _ _ _ X Y _ _ _ _ _ _ _ _ _ he
              · refine am_goto hC 240 dX2_foreseeSteps_136 rfl ?_
                exact fin _ _ _ _ _ _ X Y _ _ _ _ _ _ _ _ _ he
          · refine am_goto hC 240 dX2_foreseeSteps_88 rfl ?_
            exact fin _ _ _ _ _ _ X Y _ _ _ _ _ _ _ _ _ he
  refine am_aload0 hC dX2_foreseeSteps_0 ?_
  refine am_getf hC dX2_foreseeSteps_1 fX2_21 h0 rfl ?_
  refine am_V0_pI hC 3 dX2_foreseeSteps_4 kX2_40 (m_width _ _ wx) wx.o rfl (Nat.le_of_ble_eq_true rfl) (by decide) (Nat.le_refl _) (Nat.le_refl _) ?_
  refine am_bipush hC dX2_foreseeSteps_7 rfl ?_
  refine am_isub hC dX2_foreseeSteps_9 ?_
  refine am_iconst hC dX2_foreseeSteps_10 ?_
  refine am_S2_pI hC dX2_foreseeSteps_11 kX2_68 (m_max _ _ _ (by omega) (by omega)) (Nat.le_of_ble_eq_true rfl) (by decide) (Nat.le_refl _) (Nat.le_refl _) ?_
  rw [show max ((bl a : Int) - 62) 0 = (s : Int) by omega]
  refine am_istore1 hC dX2_foreseeSteps_14 rfl ?_
  refine am_aload0 hC dX2_foreseeSteps_15 ?_
  refine am_getf hC dX2_foreseeSteps_16 fX2_21 h0 rfl ?_
  refine am_iload1 hC dX2_foreseeSteps_19 ?_
  refine am_V1_pL hC 3 dX2_foreseeSteps_20 kX2_60 (m_window _ _ wx (by omega)) wx.o rfl (Nat.le_of_ble_eq_true rfl) (by decide) (Nat.le_refl _) (Nat.le_refl _) ?_
  rw [Nat.mod_eq_of_lt hxa, ← hxh]
  refine am_lstore2 hC dX2_foreseeSteps_23 rfl ?_
  refine am_aload0 hC dX2_foreseeSteps_24 ?_
  refine am_getf hC dX2_foreseeSteps_25 fX2_25 h0 rfl ?_
  refine am_iload1 hC dX2_foreseeSteps_28 ?_
  refine am_V1_pL hC 3 dX2_foreseeSteps_29 kX2_60 (m_window _ _ wy (by omega)) wy.o rfl (Nat.le_of_ble_eq_true rfl) (by decide) (Nat.le_refl _) (Nat.le_refl _) ?_
  rw [Nat.mod_eq_of_lt hyb, ← hyh]
  refine am_lstore4 hC dX2_foreseeSteps_32 rfl ?_
  refine am_aload0 hC dX2_foreseeSteps_34 ?_
  refine am_lconst1 hC dX2_foreseeSteps_35 ?_
  refine am_putf hC dX2_foreseeSteps_36 pX2_74 (fun q => by cases q) h0 (am_fitL _) (Nat.le_of_ble_eq_true rfl) ?_
  rw [mO_set3]
  have hm := at' 1 B0 C0 D0
  refine am_aload0 hC dX2_foreseeSteps_39 ?_
  refine am_lconst0 hC dX2_foreseeSteps_40 ?_
  refine am_putf hC dX2_foreseeSteps_41 pX2_78 (fun q => by cases q) hm (am_fitL _) (Nat.le_of_ble_eq_true rfl) ?_
  rw [mO_set4, am_up_up]
  have hm := at' 1 0 C0 D0
  refine am_aload0 hC dX2_foreseeSteps_44 ?_
  refine am_lconst0 hC dX2_foreseeSteps_45 ?_
  refine am_putf hC dX2_foreseeSteps_46 pX2_81 (fun q => by cases q) hm (am_fitL _) (Nat.le_of_ble_eq_true rfl) ?_
  rw [mO_set5, am_up_up]
  have hm := at' 1 0 0 D0
  refine am_aload0 hC dX2_foreseeSteps_49 ?_
  refine am_lconst1 hC dX2_foreseeSteps_50 ?_
  refine am_putf hC dX2_foreseeSteps_51 pX2_84 (fun q => by cases q) hm (am_fitL _) (Nat.le_of_ble_eq_true rfl) ?_
  rw [mO_set6, am_up_up]
  refine am_iconst hC dX2_foreseeSteps_54 ?_
  refine am_istore6 hC dX2_foreseeSteps_55 rfl ?_
  exact loop 100 0 _ _ _ _ _ _ a b _ _ _ _ _ _ _ _ rfl rfl rfl rfl (leI.start _ _ hab)

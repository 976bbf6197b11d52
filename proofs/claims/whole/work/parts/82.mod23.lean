/-! the Model's root -/
theorem eS.e {H H1 : am_H} {s : aS} {th v : Int} {wd k : Nat} {R : Nat → Int} (w : eS H s th wd R) (e : H1 = am_up H 48 (eI 80 (am_fu s.2.2.2.1 k v))) : eS H1 (setE s k v) th wd R ∧ only H H1 K45 := by
  have o : only H H1 [48] := by rw [e]; exact only_up (by simp)
  have N : H1.2 48 = _ := (congrArg (fun H => H.2 48) e).trans (am_up_at _ _ _)
  exact ⟨w.re (o.wk (by simp)) ((o.2 43 (by simp)).trans w.1) N ((o.2 49 (by simp)).trans w.2.2.2.2.2), o.wk (by simp)⟩
theorem m_Mroot (l : Launch) (g : am_G) {h : am_H} {s : aS} {th i p : Int} {wd : Nat} {R : Nat → Int} (w : eS h s th wd R) (ok : aOK s) (hi : IR i) (hp : IR p) :
    am_Met l g yX5_root (am_W1 yX5_root cX5_root 4 (some .int)) 4 0 0 [.ref 43, vI i, vI p] h (qI fun v h1 => (okV i ∧ okB (s.2.1 i.toNat).1 p ∧ v = (aRoot s i.toNat p.toNat).1 ∧ mOut h h1 0 (aRoot s i.toNat p.toNat).2) ∨ (¬ okV i ∧ mOut h h1 1 s) ∨ (okV i ∧ ¬ okB (s.2.1 i.toNat).1 p ∧ mOut h h1 2 s)) := by
  have h0 := w.1
  obtain ⟨⟨fs, s1, s2⟩, -, -⟩ := w.2.2.2.1
  refine am_mk [some (.ref 43), some (vI i), some (vI p), none] 1 rfl rfl (by decide +kernel) (fun z hl hg hC hT _ => ?_)
  have tv : ∀ (t : Int) (H : am_H), H = am_up h 43 (rO t wd s.1 s.2.2.1 s.2.2.2.2.1) → eS H s t wd R ∧ only h H K45 := fun t H et => by rw [et]; exact ⟨w.o w.2.2.1, only.o⟩
  obtain ⟨su, hsu⟩ : ∃ su, su = (s.2.1 i.toNat).1 := ⟨_, rfl⟩
  rw [← hsu] at hT
  have bad : ∀ (H : am_H) (e : Int), 1 ≤ e ∧ e ≤ 2 → H = am_up h 43 (rO e wd s.1 s.2.2.1 s.2.2.2.2.1) → ((e = 1 ∧ ¬ okV i) ∨ (e = 2 ∧ okV i ∧ ¬ okB su p)) → am_W z 40 0 0 H [some (.ref 43), some (vI i), some (vI p), none] [] := by
    intro H e he e1 nb
    have v2 := tv e H e1
    have k2 := v2.1.1
    refine am_aload0 hC dX5_root_40 ?_
    refine am_getf hC dX5_root_41 fX5_33 k2 rfl ?_
    refine am_if_le hC 49 dX5_root_44 rfl (by omega) (fun c44 => ?_) (fun c44 => ?_)
    · exact absurd c44 (by omega)
    · refine am_iconst hC dX5_root_47 ?_
      exact am_iret hC hT dX5_root_48 (by omega) (by omega) ⟨_, rfl, Or.inr (by rcases nb with ⟨rfl, x⟩ | ⟨rfl, x, y⟩; (· exact Or.inl ⟨x, ⟨_, _, v2.1⟩, v2.2⟩); (· exact Or.inr ⟨x, y, ⟨_, _, v2.1⟩, v2.2⟩))⟩
  have good : ∀ H : am_H, H = am_up h 43 (rO 0 wd s.1 s.2.2.1 s.2.2.2.2.1) → okV i → okB su p → am_W z 40 0 0 H [some (.ref 43), some (vI i), some (vI p), none] [] := by
    intro H e1 oi oB
    have v2 := tv 0 H e1
    have k2 := v2.1.1
    obtain ⟨I, hI⟩ : ∃ I, I = i.toNat := ⟨_, rfl⟩
    have I1 : I < 150 := by have := oi.1; have := oi.2; omega
    have ei : i = (I : Int) := by have := oi.1; omega
    obtain ⟨P, hP⟩ : ∃ P, P = p.toNat := ⟨_, rfl⟩
    have ob1 := oB.2.1
    have ob2 := oB.2.2
    have ep : p = (P : Int) := by omega
    have P2 : P ≤ 200 := by omega
    have oI := ok.2.1 I I1
    rw [← hI, ← hP] at hT
    rw [ei, ep]
    rw [ei, ep] at hT
    rw [ei] at oi
    rw [ep] at oB
    have ok1 := ok.1
    have ok3 := ok.2.2.1
    have rest : s.2.2.1 < 40 → s.1 + 2 ≤ 150 → ∀ (h3 : am_H) (wd3 n1 : Nat) (R3 : Nat → Int), eS h3 s 0 wd3 R3 → only h h3 K45 → n1 + (P / 5 + 1) + 1 ≤ wd3 → (s.2.1 I).2.1 < 32768 ^ n1 → (s.2.1 I).2.2 < 32768 ^ n1 → am_W z 84 0 0 h3 [some (.ref 43), some (vI (I : Int)), some (vI (P : Int)), none] [] := by
      intro h40 h150 h3 wd3 n1 R3 v3 o3 hn q1 q2
      have k3 := v3.1
      obtain ⟨A, hA⟩ : ∃ A, A = (s.2.1 I).2.1 := ⟨_, rfl⟩
      obtain ⟨B, hB⟩ : ∃ B, B = (s.2.1 I).2.2 := ⟨_, rfl⟩
      have B0 : 0 < B := by rw [hB]; exact oI.2.2.1
      rw [← hA] at q1
      rw [← hB] at q2
      obtain ⟨X0, hX0⟩ : ∃ X0, X0 = 32768 ^ (n1 + (P / 5 + 1)) := ⟨_, rfl⟩
      have lw : X0 * 32768 ≤ 32768 ^ wd3 := by rw [hX0, ← Nat.pow_succ]; exact Nat.pow_le_pow_right (by decide) (by omega)
      have p2k : ∀ k, k ≤ 2 * P → 2 ^ k < 32768 ^ (P / 5 + 1) := fun k hk => by rw [B15]; exact Nat.pow_lt_pow_right (by decide) (by omega)
      have p2w : ∀ k, k ≤ 2 * P → 2 ^ k < X0 := fun k hk => Nat.lt_of_lt_of_le (p2k k hk) (by rw [hX0]; exact Nat.pow_le_pow_right (by decide) (by omega))
      have cT : ∀ k, k ≤ P → A * 2 ^ (2 * k) < X0 := fun k hk => by rw [hX0]; exact fitM q1 (p2k _ (by omega)) (Nat.le_refl _)
      have lB : B < X0 := Nat.lt_of_lt_of_le q2 (by rw [hX0]; exact Nat.pow_le_pow_right (by decide) (by omega))
      obtain ⟨T, hT0⟩ : ∃ T, T = A * 2 ^ (2 * P) := ⟨_, rfl⟩
      have lT : T < X0 := by rw [hT0]; exact cT P (Nat.le_refl _)
      obtain ⟨N, hN⟩ : ∃ N, N = T / B := ⟨_, rfl⟩
      have NT : N ≤ T := by rw [hN]; exact Nat.div_le_self _ _
      obtain ⟨q, hq⟩ : ∃ q, q = rtN s I P := ⟨_, rfl⟩
      have hq' : isq N = q := by rw [hq, rtN, ← hA, ← hB, ← hT0, ← hN]
      have qq := (isq_s N).1
      rw [hq'] at qq
      have q_le : q ≤ q * q := Nat.le_mul_self q
      have qB : q * q * B ≤ T := Nat.le_trans (Nat.mul_le_mul_right _ qq) (by rw [hN]; exact Nat.div_mul_le_self _ _)
      obtain ⟨X, hX⟩ : ∃ X, X = rtX s I P := ⟨_, rfl⟩
      have eX : X = if q * q * B = T then 0 else 1 := by rw [hX, rtX, ← hq, ← hA, ← hB, ← hT0]
      have X1 : X ≤ 1 := by rw [eX]; split <;> omega
      have lP := p2w P (by omega)
      have aPk := aPut_k s 1 q (2 ^ P)
      obtain ⟨s1, hs1⟩ : ∃ s1, s1 = rt1 s I P := ⟨_, rfl⟩
      have n1' : s1.1 ≤ 150 := by rw [hs1, rt1, ← hq]; show (aPut s 1 q (2 ^ P)).2.1 ≤ 150; omega
      have e1' : s1.2.2.1 = s.2.2.1 := by rw [hs1, rt1, ← hq]; show (aPut s 1 q (2 ^ P)).2.2.2.1 = _; rw [aPk.1]
      have aPk2 := aPut_k s1 1 (q + X) (2 ^ P)
      obtain ⟨s2, hs2⟩ : ∃ s2, s2 = rt2 s I P := ⟨_, rfl⟩
      have e2' : s2.2.2.1 = s.2.2.1 := by rw [hs2, rt2, ← hs1, ← hq, ← hX]; show (aPut s1 1 (q + X) (2 ^ P)).2.2.2.1 = _; rw [aPk2.1]; exact e1'
      have aA : aRoot s I P = ((s.2.2.1 : Int), incR s2) := by rw [aRoot, if_neg (by omega), ← hs2]
      have L208 : ∀ (h10 : am_H) (R10 : Nat → Int) (fl : Int), eS h10 s1 0 wd3 R10 → only h h10 K45 → rg R10 0 (q + X) → rg R10 2 (2 ^ P) → am_W z 208 0 0 h10 [some (.ref 43), some (vI (I : Int)), some (vI (P : Int)), some (vI fl)] [] := by
        intro h10 R10 fl v10 o10 x0 x2
        have k10 := v10.1
        refine am_aload0 hC dX5_root_208 ?_
        refine am_getf hC dX5_root_209 fX5_26 k10 rfl ?_
        refine am_iconst hC dX5_root_212 ?_
        refine am_aload0 hC dX5_root_213 ?_
        refine am_getf hC dX5_root_214 fX5_107 k10 rfl ?_
        refine am_imul hC dX5_root_217 ?_
        refine am_iconst hC dX5_root_218 ?_
        refine am_iadd hC dX5_root_219 ?_
        refine am_aload0 hC dX5_root_220 ?_
        refine am_iconst hC dX5_root_221 ?_
        refine am_iconst hC dX5_root_222 ?_
        refine am_iconst hC dX5_root_223 ?_
        rw [e1']
        refine am_V3_qI hC 5 dX5_root_224 kX5_87 (m_Mmake (x := 0) (y := 2) _ _ v10 n1' (by decide) (by decide) x0 x2 (by omega) (by omega) (Nat.two_pow_pos _)) k10 rfl (Nat.le_of_ble_eq_true rfl) (by decide) (by omega) (by omega) (fun v h11 r => ?_)
        obtain ⟨ev, ⟨R11, v11, -⟩, o11⟩ := r
        subst ev
        have e44 := v11.2.2.2.2.1
        refine am_iast hC dX5_root_227 e44 (by omega) (by omega) ?_
        rw [show (2 * (s.2.2.1 : Int) + 1).toNat = 2 * s.2.2.1 + 1 by omega]
        refine am_heap (fun h12 e12 => ?_)
        have v12 := v11.e e12
        rw [show setE (aPut s1 1 (q + X) (2 ^ P)).2 (2 * s.2.2.1 + 1) (aPut s1 1 (q + X) (2 ^ P)).1 = s2 by rw [hs2, rt2, ← hs1, ← hq, ← hX]] at v12
        clear e12
        have k12 := v12.1.1
        refine am_aload0 hC dX5_root_228 ?_
        refine am_dup hC dX5_root_229 rfl ?_
        refine am_getf hC dX5_root_230 fX5_107 k12 rfl ?_
        refine am_iconst hC dX5_root_233 ?_
        refine am_iadd hC dX5_root_234 ?_
        refine am_putf hC dX5_root_235 pX5_107 (fun q => by cases q) k12 (am_fitI _) (Nat.le_of_ble_eq_true rfl) ?_
        rw [rO_set7]
        refine am_heap (fun h13 e13 => ?_)
        have o13 : only h12 h13 [43] := by rw [e13]; exact only_up (by simp)
        have N13 : h13.2 43 = some (rO 0 wd3 s2.1 ((s2.2.2.1 + 1 : Nat) : Int) s2.2.2.2.2.1) := by rw [e13]; exact am_up_at _ _ _
        clear e13
        have v13 : eS h13 (incR s2) 0 wd3 R11 := v12.1.re (o13.wk (by simp)) N13 ((o13.2 48 (by simp)).trans v12.1.2.2.2.2.1) ((o13.2 49 (by simp)).trans v12.1.2.2.2.2.2)
        refine am_aload0 hC dX5_root_238 ?_
        refine am_getf hC dX5_root_239 fX5_107 N13 rfl ?_
        refine am_iconst hC dX5_root_242 ?_
        refine am_isub hC dX5_root_243 ?_
        rw [show (((s2.2.2.1 + 1 : Nat)) : Int) - 1 = (s.2.2.1 : Int) by omega]
        exact am_iret hC hT dX5_root_244 (by omega) (by omega) ⟨_, rfl, Or.inl ⟨oi, oB, by rw [aA], ⟨_, _, by rw [aA]; exact v13⟩, o10.tr (o11.tr (v12.2.tr (o13.wk (by simp))))⟩⟩
      have L192 : ∀ (h10 : am_H) (R10 : Nat → Int) (fl : Int), eS h10 s1 0 wd3 R10 → only h h10 K45 → rg R10 0 q → rg R10 2 (2 ^ P) → ((fl = 1 ∧ X = 0) ∨ (fl = 0 ∧ X = 1)) → am_W z 192 0 0 h10 [some (.ref 43), some (vI (I : Int)), some (vI (P : Int)), some (vI fl)] [] := by
        intro h10 R10 fl v10 o10 x0 x2 hf
        have k10 := v10.1
        refine am_iload3 hC dX5_root_192 ?_
        refine am_if_ne hC 208 dX5_root_193 rfl (by omega) (fun c193 => ?_) (fun c193 => ?_)
        · first
            | exact L208 h10 R10 _ v10 o10 (by rw [show q + X = q by omega]; exact x0) x2
            | exact L208 _ R12 _ (v10.r (R' := R12)) (o10.tr (only.r (R := R10))) (by rw [show q + X = q + 1 by omega]; exact c12) x22
        · refine am_aload0 hC dX5_root_196 ?_
          refine am_iconst hC dX5_root_197 ?_
          refine am_lconst1 hC dX5_root_198 ?_
          refine am_V2_qN hC 5 dX5_root_199 kX5_36 (m_Mset (x := 1) _ _ v10.x (by decide)) k10 rfl (Nat.le_of_ble_eq_true rfl) (by decide) (by omega) (by omega) (fun h11 r => ?_)
          obtain ⟨R11, rfl, c11, f11⟩ := r
          rw [show ((1 : Int) % 18446744073709551616).toNat = 1 from rfl] at c11
          have v11 := v10.r (R' := R11)
          have k11 := v11.1
          have x01 := x0.kept f11 (by decide)
          have x21 := x2.kept f11 (by decide)
          refine am_aload0 hC dX5_root_202 ?_
          refine am_iconst hC dX5_root_203 ?_
          refine am_iconst hC dX5_root_204 ?_
          refine am_V2_qN hC 5 dX5_root_205 kX5_104 (m_Mplus (x := 0) (y := 1) _ _ v11.x (by decide) (by decide) (by decide) x01 c11 (by omega)) k11 rfl (Nat.le_of_ble_eq_true rfl) (by decide) (by omega) (by omega) (fun h12 r => ?_)
          obtain ⟨R12, e12, c12, f12⟩ := r
          rw [am_up_up] at e12
          subst e12
          have x22 := x21.kept f12 (by decide)
          first
            | exact L208 h10 R10 _ v10 o10 (by rw [show q + X = q by omega]; exact x0) x2
            | exact L208 _ R12 _ (v10.r (R' := R12)) (o10.tr (only.r (R := R10))) (by rw [show q + X = q + 1 by omega]; exact c12) x22
      have L125 : ∀ R' : Nat → Int, rg R' 0 T → rg R' 2 (2 ^ P) → rg R' 1 B → am_W z 125 0 0 (am_up h3 44 (eI 1920 R')) [some (.ref 43), some (vI (I : Int)), some (vI (P : Int)), some (vI (P : Int))] [] := by
        intro R' x0 x2 x1
        have v4 := v3.r (R' := R')
        have k4 := v4.1
        refine am_aload0 hC dX5_root_125 ?_
        refine am_iconst hC dX5_root_126 ?_
        refine am_iconst hC dX5_root_127 ?_
        refine am_iconst hC dX5_root_128 ?_
        refine am_iconst hC dX5_root_129 ?_
        refine am_V4_qN hC 5 dX5_root_130 kX5_80 (m_Mdivide (x := 0) (y := 1) (q := 3) (t := 4) _ _ v4.x (by decide) (by decide) (by decide) (by decide) (by decide) (by decide) (by decide) (by decide) (by decide) x0 x1 (by omega) (by omega) B0) k4 rfl (Nat.le_of_ble_eq_true rfl) (by decide) (by omega) (by omega) (fun h7 rr => ?_)
        obtain ⟨R5, e5, c5, -, f5⟩ := rr
        rw [am_up_up] at e5
        subst e5
        rw [← hN] at c5
        have v5 := v3.r (R' := R5)
        have k5 := v5.1
        have x05 := x0.on f5 (by decide)
        have x15 := x1.on f5 (by decide)
        have x25 := x2.on f5 (by decide)
        refine am_aload0 hC dX5_root_133 ?_
        refine am_iconst hC dX5_root_134 ?_
        refine am_iconst hC dX5_root_135 ?_
        refine am_V2_qN hC 5 dX5_root_136 kX5_110 (m_MrootOf (x := 3) (t := 5) _ _ v5.x (by decide) (by decide) (by decide) c5 (by omega)) k5 rfl (Nat.le_of_ble_eq_true rfl) (by decide) (by omega) (by omega) (fun h7 rr => ?_)
        obtain ⟨R6, e6, c6, f6⟩ := rr
        rw [am_up_up] at e6
        subst e6
        rw [hq'] at c6
        have v6 := v3.r (R' := R6)
        have k6 := v6.1
        have x06 := x05.on f6 (by decide)
        have x16 := x15.on f6 (by decide)
        have x26 := x25.on f6 (by decide)
        refine am_aload0 hC dX5_root_139 ?_
        refine am_iconst hC dX5_root_140 ?_
        refine am_iconst hC dX5_root_141 ?_
        refine am_iconst hC dX5_root_142 ?_
        refine am_V3_qN hC 5 dX5_root_143 kX5_101 (m_Mproduct (x := 5) (y := 5) (t := 3) _ _ v6.x (by decide) (by decide) (by decide) (by decide) (by decide) c6 c6 (by omega)) k6 rfl (Nat.le_of_ble_eq_true rfl) (by decide) (by omega) (by omega) (fun h7 r => ?_)
        obtain ⟨R7, e7, c7, f7⟩ := r
        rw [am_up_up] at e7
        subst e7
        have v7 := v3.r (R' := R7)
        have k7 := v7.1
        have x07 := x06.kept f7 (by decide)
        have x17 := x16.kept f7 (by decide)
        have x27 := x26.kept f7 (by decide)
        have c67 := c6.kept f7 (by decide)
        refine am_aload0 hC dX5_root_146 ?_
        refine am_iconst hC dX5_root_147 ?_
        refine am_iconst hC dX5_root_148 ?_
        refine am_iconst hC dX5_root_149 ?_
        refine am_V3_qN hC 5 dX5_root_150 kX5_101 (m_Mproduct (x := 3) (y := 1) (t := 4) _ _ v7.x (by decide) (by decide) (by decide) (by decide) (by decide) c7 x17 (by omega)) k7 rfl (Nat.le_of_ble_eq_true rfl) (by decide) (by omega) (by omega) (fun h7 r => ?_)
        obtain ⟨R8, e8, c8, f8⟩ := r
        rw [am_up_up] at e8
        subst e8
        have v8 := v3.r (R' := R8)
        have k8 := v8.1
        have x08 := x07.kept f8 (by decide)
        have x28 := x27.kept f8 (by decide)
        have c68 := c67.kept f8 (by decide)
        have cs := cmpN_s (q * q * B) T
        obtain ⟨fa, hfa⟩ : ∃ fa, fa = cmpN (q * q * B) T := ⟨_, rfl⟩
        rw [← hfa] at cs
        refine am_aload0 hC dX5_root_153 ?_
        refine am_iconst hC dX5_root_154 ?_
        refine am_iconst hC dX5_root_155 ?_
        refine am_V2_pI hC 5 dX5_root_156 kX5_50 (m_Mcompare (x := 4) (y := 0) _ _ v8.x (by decide) (by decide) c8 x08 (by omega) (by omega)) k8 rfl (Nat.le_of_ble_eq_true rfl) (by decide) (by omega) (by omega) ?_
        rw [← hfa]
        refine am_if_ne hC 166 dX5_root_159 rfl (by omega) (fun c159 => ?_) (fun c159 => ?_)
        · refine am_iconst hC dX5_root_166 ?_
          refine am_istore3 hC dX5_root_167 rfl ?_
          refine am_aload0 hC dX5_root_168 ?_
          refine am_iconst hC dX5_root_169 ?_
          refine am_iconst hC dX5_root_170 ?_
          refine am_V2_qN hC 5 dX5_root_171 kX5_62 (m_Mcopy (x := 0) (y := 5) _ _ v8.x (by decide) (by decide) c68) k8 rfl (Nat.le_of_ble_eq_true rfl) (by decide) (by omega) (by omega) (fun h7 rr => ?_)
          obtain ⟨R9, e9, c9, f9⟩ := rr
          rw [am_up_up] at e9
          subst e9
          have v9 := v3.r (R' := R9)
          have k9 := v9.1
          have x29 := x28.kept f9 (by decide)
          refine am_aload0 hC dX5_root_174 ?_
          refine am_getf hC dX5_root_175 fX5_26 k9 rfl ?_
          refine am_iconst hC dX5_root_178 ?_
          refine am_aload0 hC dX5_root_179 ?_
          refine am_getf hC dX5_root_180 fX5_107 k9 rfl ?_
          refine am_imul hC dX5_root_183 ?_
          refine am_aload0 hC dX5_root_184 ?_
          refine am_iconst hC dX5_root_185 ?_
          refine am_iconst hC dX5_root_186 ?_
          refine am_iconst hC dX5_root_187 ?_
          refine am_V3_qI hC 5 dX5_root_188 kX5_87 (m_Mmake (x := 0) (y := 2) _ _ v9 (by omega) (by decide) (by decide) c9 x29 (by omega) (by omega) (Nat.two_pow_pos _)) k9 rfl (Nat.le_of_ble_eq_true rfl) (by decide) (by omega) (by omega) (fun v h11 r => ?_)
          obtain ⟨ev, ⟨R11, v11, f11⟩, o11⟩ := r
          subst ev
          have e44 := v11.2.2.2.2.1
          refine am_iast hC dX5_root_191 e44 (by omega) (by omega) ?_
          rw [show (2 * (s.2.2.1 : Int)).toNat = 2 * s.2.2.1 by omega]
          refine am_heap (fun h12 e12 => ?_)
          have v12 := v11.e e12
          rw [show setE (aPut s 1 q (2 ^ P)).2 (2 * s.2.2.1) (aPut s 1 q (2 ^ P)).1 = s1 by rw [hs1, rt1, ← hq]] at v12
          clear e12
          have o12 : only h h12 K45 := o3.tr ((only.r (R := R3)).tr (o11.tr v12.2))
          have x012 := c9.on f11 (by decide)
          have x212 := x29.on f11 (by decide)
          first
            | exact L192 h12 R11 1 v12.1 o12 x012 x212 (Or.inl ⟨rfl, by rw [eX, if_pos (by omega)]⟩)
            | exact L192 h12 R11 0 v12.1 o12 x012 x212 (Or.inr ⟨rfl, by rw [eX, if_neg (by omega)]⟩)
        · refine am_iconst hC dX5_root_162 ?_
          refine am_goto hC 167 dX5_root_163 rfl ?_
          refine am_istore3 hC dX5_root_167 rfl ?_
          refine am_aload0 hC dX5_root_168 ?_
          refine am_iconst hC dX5_root_169 ?_
          refine am_iconst hC dX5_root_170 ?_
          refine am_V2_qN hC 5 dX5_root_171 kX5_62 (m_Mcopy (x := 0) (y := 5) _ _ v8.x (by decide) (by decide) c68) k8 rfl (Nat.le_of_ble_eq_true rfl) (by decide) (by omega) (by omega) (fun h7 rr => ?_)
          obtain ⟨R9, e9, c9, f9⟩ := rr
          rw [am_up_up] at e9
          subst e9
          have v9 := v3.r (R' := R9)
          have k9 := v9.1
          have x29 := x28.kept f9 (by decide)
          refine am_aload0 hC dX5_root_174 ?_
          refine am_getf hC dX5_root_175 fX5_26 k9 rfl ?_
          refine am_iconst hC dX5_root_178 ?_
          refine am_aload0 hC dX5_root_179 ?_
          refine am_getf hC dX5_root_180 fX5_107 k9 rfl ?_
          refine am_imul hC dX5_root_183 ?_
          refine am_aload0 hC dX5_root_184 ?_
          refine am_iconst hC dX5_root_185 ?_
          refine am_iconst hC dX5_root_186 ?_
          refine am_iconst hC dX5_root_187 ?_
          refine am_V3_qI hC 5 dX5_root_188 kX5_87 (m_Mmake (x := 0) (y := 2) _ _ v9 (by omega) (by decide) (by decide) c9 x29 (by omega) (by omega) (Nat.two_pow_pos _)) k9 rfl (Nat.le_of_ble_eq_true rfl) (by decide) (by omega) (by omega) (fun v h11 r => ?_)
          obtain ⟨ev, ⟨R11, v11, f11⟩, o11⟩ := r
          subst ev
          have e44 := v11.2.2.2.2.1
          refine am_iast hC dX5_root_191 e44 (by omega) (by omega) ?_
          rw [show (2 * (s.2.2.1 : Int)).toNat = 2 * s.2.2.1 by omega]
          refine am_heap (fun h12 e12 => ?_)
          have v12 := v11.e e12
          rw [show setE (aPut s 1 q (2 ^ P)).2 (2 * s.2.2.1) (aPut s 1 q (2 ^ P)).1 = s1 by rw [hs1, rt1, ← hq]] at v12
          clear e12
          have o12 : only h h12 K45 := o3.tr ((only.r (R := R3)).tr (o11.tr v12.2))
          have x012 := c9.on f11 (by decide)
          have x212 := x29.on f11 (by decide)
          first
            | exact L192 h12 R11 1 v12.1 o12 x012 x212 (Or.inl ⟨rfl, by rw [eX, if_pos (by omega)]⟩)
            | exact L192 h12 R11 0 v12.1 o12 x012 x212 (Or.inr ⟨rfl, by rw [eX, if_neg (by omega)]⟩)
      have loop : ∀ (m k : Nat) (R' : Nat → Int), k + m = P → rg R' 0 (A * 2 ^ (2 * k)) → rg R' 2 (2 ^ k) → rg R' 1 B → am_W z 99 0 0 (am_up h3 44 (eI 1920 R')) [some (.ref 43), some (vI (I : Int)), some (vI (P : Int)), some (vI (k : Int))] [] := by
        intro m
        induction m with
        | zero =>
          intro k R' hk x0 x2 x1
          rw [show k = P by omega] at x0 x2 ⊢
          rw [← hT0] at x0
          refine am_iload3 hC dX5_root_99 ?_
          refine am_iload2 hC dX5_root_100 ?_
          refine am_icmp_ge hC 125 dX5_root_101 rfl (by omega) (by omega) (fun c101 => ?_) (fun c101 => ?_)
          · exact L125 R' x0 x2 x1
          · exact absurd c101 (by omega)
        | succ m ih =>
          intro k R' hk x0 x2 x1
          have v4 := v3.r (R' := R')
          have k4 := v4.1
          have l0 := cT k (by omega)
          have l2 := p2w k (by omega)
          have s0 : 2 * (2 * (A * 2 ^ (2 * k))) = A * 2 ^ (2 * (k + 1)) := by
            rw [show 2 * (k + 1) = 2 * k + 1 + 1 by omega, Nat.pow_succ, Nat.pow_succ, Nat.mul_left_comm 2 A, Nat.mul_left_comm 2 A]
            congr 1
            omega
          have s2 : 2 * 2 ^ k = 2 ^ (k + 1) := by rw [Nat.pow_succ]; omega
          refine am_iload3 hC dX5_root_99 ?_
          refine am_iload2 hC dX5_root_100 ?_
          refine am_icmp_ge hC 125 dX5_root_101 rfl (by omega) (by omega) (fun c101 => ?_) (fun c101 => ?_)
          · exact absurd c101 (by omega)
          · refine am_aload0 hC dX5_root_104 ?_
            refine am_iconst hC dX5_root_105 ?_
            refine am_V1_qN hC 5 dX5_root_106 kX5_46 (m_Mtwice (x := 0) _ _ v4.x (by decide) x0 (by omega)) k4 rfl (Nat.le_of_ble_eq_true rfl) (by decide) (by omega) (by omega) (fun h7 rr => ?_)
            obtain ⟨R5, e5, c5, f5⟩ := rr
            rw [am_up_up] at e5
            subst e5
            have v5 := v3.r (R' := R5)
            have k5 := v5.1
            have x25 := x2.kept f5 (by decide)
            have x15 := x1.kept f5 (by decide)
            refine am_aload0 hC dX5_root_109 ?_
            refine am_iconst hC dX5_root_110 ?_
            refine am_V1_qN hC 5 dX5_root_111 kX5_46 (m_Mtwice (x := 0) _ _ v5.x (by decide) c5 (by omega)) k5 rfl (Nat.le_of_ble_eq_true rfl) (by decide) (by omega) (by omega) (fun h7 rr => ?_)
            obtain ⟨R6, e6, c6, f6⟩ := rr
            rw [am_up_up] at e6
            subst e6
            have v6 := v3.r (R' := R6)
            have k6 := v6.1
            have x26 := x25.kept f6 (by decide)
            have x16 := x15.kept f6 (by decide)
            refine am_aload0 hC dX5_root_114 ?_
            refine am_iconst hC dX5_root_115 ?_
            refine am_V1_qN hC 5 dX5_root_116 kX5_46 (m_Mtwice (x := 2) _ _ v6.x (by decide) x26 (by omega)) k6 rfl (Nat.le_of_ble_eq_true rfl) (by decide) (by omega) (by omega) (fun h7 rr => ?_)
            obtain ⟨R7, e7, c7, f7⟩ := rr
            rw [am_up_up] at e7
            subst e7
            refine am_iinc3 hC dX5_root_119 rfl ?_
            refine am_goto hC 99 dX5_root_122 rfl ?_
            rw [show (k : Int) + 1 = ((k + 1 : Nat) : Int) by omega]
            exact ih (k + 1) R7 (by omega) (by rw [← s0]; exact c6.kept f7 (by decide)) (by rw [← s2]; exact c7) (x16.kept f7 (by decide))
      refine am_aload0 hC dX5_root_84 ?_
      refine am_iload1 hC dX5_root_85 ?_
      refine am_iconst hC dX5_root_86 ?_
      refine am_iconst hC dX5_root_87 ?_
      refine am_V3_qN hC 5 dX5_root_88 kX5_98 (m_Mtake (x := 0) (y := 1) _ _ v3 I1 oI (by decide) (by decide) (by decide)) k3 rfl (Nat.le_of_ble_eq_true rfl) (by decide) (by omega) (by omega) (fun h4 r => ?_)
      obtain ⟨R4, rfl, a4, b4, f4⟩ := r
      rw [← hA] at a4
      rw [← hB] at b4
      have v4 := v3.r (R' := R4)
      have k4 := v4.1
      refine am_aload0 hC dX5_root_91 ?_
      refine am_iconst hC dX5_root_92 ?_
      refine am_lconst1 hC dX5_root_93 ?_
      refine am_V2_qN hC 5 dX5_root_94 kX5_36 (m_Mset (x := 2) _ _ v4.x (by decide)) k4 rfl (Nat.le_of_ble_eq_true rfl) (by decide) (by omega) (by omega) (fun h5 r => ?_)
      obtain ⟨R5, e5, c5, f5⟩ := r
      rw [am_up_up] at e5
      subst e5
      rw [show ((1 : Int) % 18446744073709551616).toNat = 1 from rfl] at c5
      refine am_iconst hC dX5_root_97 ?_
      refine am_istore3 hC dX5_root_98 rfl ?_
      exact loop P 0 R5 (by omega) (by rw [Nat.mul_zero, Nat.pow_zero, Nat.mul_one]; exact a4.kept f5 (by decide)) c5 (b4.kept f5 (by decide))
    refine am_aload0 hC dX5_root_40 ?_
    refine am_getf hC dX5_root_41 fX5_33 k2 rfl ?_
    refine am_if_le hC 49 dX5_root_44 rfl (by omega) (fun c44 => ?_) (fun c44 => ?_)
    · refine am_aload0 hC dX5_root_49 ?_
      refine am_getf hC dX5_root_50 fX5_107 k2 rfl ?_
      refine am_bipush hC dX5_root_53 rfl ?_
      refine am_icmp_eq hC 70 dX5_root_55 rfl (by omega) (by omega) (fun c55 => ?_) (fun c55 => ?_)
      · have e : aRoot s I P = (-1, s) := by rw [aRoot, if_pos (by omega)]
        refine am_iconst hC dX5_root_70 ?_
        exact am_iret hC hT dX5_root_71 (by omega) (by omega) ⟨_, rfl, Or.inl ⟨oi, oB, by rw [e], ⟨_, _, by rw [e]; exact v2.1⟩, v2.2⟩⟩
      · refine am_aload0 hC dX5_root_58 ?_
        refine am_getf hC dX5_root_59 fX5_84 k2 rfl ?_
        refine am_iconst hC dX5_root_62 ?_
        refine am_iadd hC dX5_root_63 ?_
        refine am_sipush hC dX5_root_64 rfl ?_
        refine am_icmp_le hC 72 dX5_root_67 rfl (by omega) (by omega) (fun c67 => ?_) (fun c67 => ?_)
        · refine am_aload0 hC dX5_root_72 ?_
          refine am_iload1 hC dX5_root_73 ?_
          refine am_iload1 hC dX5_root_74 ?_
          refine am_iload2 hC dX5_root_75 ?_
          refine am_iconst hC dX5_root_76 ?_
          refine am_idiv hC dX5_root_77 (by omega) (by omega) (by omega) ?_
          refine am_bipush hC dX5_root_78 rfl ?_
          refine am_iadd hC dX5_root_80 ?_
          rw [show (P : Int).tdiv 5 + 8 = ((P / 5 + 8 : Nat) : Int) by rw [Int.tdiv_eq_ediv_of_nonneg (by omega)]; omega]
          refine am_V3_qN hC 5 dX5_root_81 kX5_94 (m_Mneed (more := P / 5 + 8) _ _ v2.1 I1 I1 (by omega) oI oI) k2 rfl (Nat.le_of_ble_eq_true rfl) (by decide) (by omega) (by omega) (fun h3 r => ?_)
          obtain ⟨wd3, ⟨n1, n2, hw, b1, b2, q1, q2, q3, q4⟩, e3⟩ := r
          have v3 : eS h3 s 0 wd3 R := by rw [e3]; exact v2.1.o (by omega)
          have o3 : only h h3 K45 := v2.2.tr (by rw [e3]; exact only.o)
          clear e3
          exact rest (by omega) (by omega) h3 wd3 n1 R v3 o3 (by omega) q1 q2
        · have e : aRoot s I P = (-1, s) := by rw [aRoot, if_pos (by omega)]
          refine am_iconst hC dX5_root_70 ?_
          exact am_iret hC hT dX5_root_71 (by omega) (by omega) ⟨_, rfl, Or.inl ⟨oi, oB, by rw [e], ⟨_, _, by rw [e]; exact v2.1⟩, v2.2⟩⟩
    · exact absurd c44 (by decide)
  refine am_aload0 hC dX5_root_0 ?_
  refine am_iload1 hC dX5_root_1 ?_
  refine am_S1_qI hC dX5_root_2 kX5_91 (m_MnoValue _ _ hi) (Nat.le_of_ble_eq_true rfl) (by decide) (by omega) (by omega) (fun v h1 q => ?_)
  obtain ⟨e, q⟩ := q
  rw [e]
  clear e
  have nq : v ≠ 0 → ¬ okV i := fun c => by rcases q with x | x; (· exact absurd x.1 c); (· exact x.2)
  have yq : v = 0 → okV i := fun c => by rcases q with x | x; (· exact x.2); (· omega)
  refine am_if_eq hC 12 dX5_root_5 rfl (by omega) (fun c5 => ?_) (fun c5 => ?_)
  · refine am_aload0 hC dX5_root_12 ?_
    refine am_getf hC dX5_root_13 fX5_17 h0 rfl ?_
    refine am_iload1 hC dX5_root_16 ?_
    have oi := yq (by omega)
    have oi1 := oi.1
    have oi2 := oi.2
    have sg3 := (ok.2.1 i.toNat (by omega)).1
    rw [← hsu] at sg3
    refine am_iald hC dX5_root_17 s1 (by omega) (by omega) ?_
    rw [s2 _ (by omega), ← hsu]
    refine am_if_lt hC 32 dX5_root_18 rfl (by omega) (fun c18 => ?_) (fun c18 => ?_)
    · refine am_iconst hC dX5_root_32 ?_
      refine am_goto hC 37 dX5_root_33 rfl ?_
      refine am_putf hC dX5_root_37 pX5_33 (fun q => by cases q) h0 (am_fitI _) (Nat.le_of_ble_eq_true rfl) ?_
      rw [rO_set0]
      first
        | exact bad _ 1 (by omega) rfl (Or.inl ⟨rfl, nq (by omega)⟩)
        | exact bad _ 2 (by omega) rfl (Or.inr ⟨rfl, yq (by omega), fun c => by have := c.1; have := c.2.1; have := c.2.2; omega⟩)
        | exact good _ rfl (yq (by omega)) ⟨by omega, by omega, by omega⟩
    · refine am_iload2 hC dX5_root_21 ?_
      refine am_if_lt hC 32 dX5_root_22 rfl (by omega) (fun c22 => ?_) (fun c22 => ?_)
      · refine am_iconst hC dX5_root_32 ?_
        refine am_goto hC 37 dX5_root_33 rfl ?_
        refine am_putf hC dX5_root_37 pX5_33 (fun q => by cases q) h0 (am_fitI _) (Nat.le_of_ble_eq_true rfl) ?_
        rw [rO_set0]
        first
          | exact bad _ 1 (by omega) rfl (Or.inl ⟨rfl, nq (by omega)⟩)
          | exact bad _ 2 (by omega) rfl (Or.inr ⟨rfl, yq (by omega), fun c => by have := c.1; have := c.2.1; have := c.2.2; omega⟩)
          | exact good _ rfl (yq (by omega)) ⟨by omega, by omega, by omega⟩
      · refine am_iload2 hC dX5_root_25 ?_
        refine am_sipush hC dX5_root_26 rfl ?_
        refine am_icmp_le hC 36 dX5_root_29 rfl (by omega) (by omega) (fun c29 => ?_) (fun c29 => ?_)
        · refine am_iconst hC dX5_root_36 ?_
          refine am_putf hC dX5_root_37 pX5_33 (fun q => by cases q) h0 (am_fitI _) (Nat.le_of_ble_eq_true rfl) ?_
          rw [rO_set0]
          first
            | exact bad _ 1 (by omega) rfl (Or.inl ⟨rfl, nq (by omega)⟩)
            | exact bad _ 2 (by omega) rfl (Or.inr ⟨rfl, yq (by omega), fun c => by have := c.1; have := c.2.1; have := c.2.2; omega⟩)
            | exact good _ rfl (yq (by omega)) ⟨by omega, by omega, by omega⟩
        · refine am_iconst hC dX5_root_32 ?_
          refine am_goto hC 37 dX5_root_33 rfl ?_
          refine am_putf hC dX5_root_37 pX5_33 (fun q => by cases q) h0 (am_fitI _) (Nat.le_of_ble_eq_true rfl) ?_
          rw [rO_set0]
          first
            | exact bad _ 1 (by omega) rfl (Or.inl ⟨rfl, nq (by omega)⟩)
            | exact bad _ 2 (by omega) rfl (Or.inr ⟨rfl, yq (by omega), fun c => by have := c.1; have := c.2.1; have := c.2.2; omega⟩)
            | exact good _ rfl (yq (by omega)) ⟨by omega, by omega, by omega⟩
  · refine am_iconst hC dX5_root_8 ?_
    refine am_goto hC 37 dX5_root_9 rfl ?_
    refine am_putf hC dX5_root_37 pX5_33 (fun q => by cases q) h0 (am_fitI _) (Nat.le_of_ble_eq_true rfl) ?_
    rw [rO_set0]
    first
      | exact bad _ 1 (by omega) rfl (Or.inl ⟨rfl, nq (by omega)⟩)
      | exact bad _ 2 (by omega) rfl (Or.inr ⟨rfl, yq (by omega), fun c => by have := c.1; have := c.2.1; have := c.2.2; omega⟩)
      | exact good _ rfl (yq (by omega)) ⟨by omega, by omega, by omega⟩

/-! the Model's digit -/
theorem vI_wrap (v : Int) : ∃ u : Int, (-2147483648 ≤ u ∧ u ≤ 2147483647) ∧ vI v = vI u :=
  ⟨(Int32.ofInt v).toInt, ⟨by have := Int32.le_toInt (Int32.ofInt v); omega, by have := Int32.toInt_lt (Int32.ofInt v); omega⟩, by unfold vI; rw [Int32.ofInt_toInt]⟩
theorem dlen_le : ∀ (n a : Nat), 1 ≤ n → a < 10 ^ n → dlen a ≤ n := by
  intro n
  induction n with
  | zero => intro a h _; omega
  | succ n ih =>
    intro a _ h
    rcases Nat.lt_or_ge a 10 with c | c
    · rw [dlen_lt c]; omega
    · rw [dlen_ge c]
      rcases Nat.eq_zero_or_pos n with d | d
      · subst d; omega
      · have := ih (a / 10) d (by rw [Nat.pow_succ] at h; omega)
        omega
theorem dlen_1 (a : Nat) : 1 ≤ dlen a := by
  rcases Nat.lt_or_ge a 10 with c | c
  · rw [dlen_lt c]; exact Nat.le_refl _
  · rw [dlen_ge c]; omega
theorem m_Mdigit (l : Launch) (g : am_G) {h : am_H} {s : aS} {th i part j : Int} {wd : Nat} {R : Nat → Int} (w : eS h s th wd R) (ok : aOK s) (hi : IR i) (hp : IR part) (hj : IR j) :
    am_Met l g yX5_digit (am_W1 yX5_digit cX5_digit 7 (some .int)) 4 0 0 [.ref 43, vI i, vI part, vI j] h (qI fun v h1 => (okV i ∧ okD part ∧ (0 ≤ j ∧ j < (dlen (aPart s i.toNat part) : Int)) ∧ v = aDigit (aPart s i.toNat part) j.toNat ∧ mOut h h1 0 s) ∨ ((¬ okV i ∨ (okV i ∧ okD part ∧ ¬ (0 ≤ j ∧ j < (dlen (aPart s i.toNat part) : Int)))) ∧ mOut h h1 1 s) ∨ (okV i ∧ ¬ okD part ∧ mOut h h1 2 s)) := by
  have h0 := w.1
  refine am_mk [some (.ref 43), some (vI i), some (vI part), some (vI j), none, none, none] 3 rfl rfl (by decide +kernel) (fun z hl hg hC hT _ => ?_)
  have tv : ∀ (t : Int) (H : am_H), H = am_up h 43 (rO t wd s.1 s.2.2.1 s.2.2.2.2.1) → eS H s t wd R ∧ only h H K45 := fun t H et => by rw [et]; exact ⟨w.o w.2.2.1, only.o⟩
  have bad : ∀ (H : am_H) (e : Int), 1 ≤ e ∧ e ≤ 2 → H = am_up h 43 (rO e wd s.1 s.2.2.1 s.2.2.2.2.1) → ((e = 1 ∧ ¬ okV i) ∨ (e = 2 ∧ okV i ∧ ¬ okD part)) → am_W z 29 0 0 H [some (.ref 43), some (vI i), some (vI part), some (vI j), none, none, none] [] := by
    intro H e he e1 nb
    have v2 := tv e H e1
    have k2 := v2.1.1
    refine am_aload0 hC dX5_digit_29 ?_
    refine am_getf hC dX5_digit_30 fX5_33 k2 rfl ?_
    refine am_if_le hC 38 dX5_digit_33 rfl (by omega) (fun c33 => ?_) (fun c33 => ?_)
    · exact absurd c33 (by omega)
    · refine am_iconst hC dX5_digit_36 ?_
      exact am_iret hC hT dX5_digit_37 (by omega) (by omega) ⟨_, rfl, Or.inr (by rcases nb with ⟨rfl, x⟩ | ⟨rfl, x, y⟩; (· exact Or.inl ⟨Or.inl x, ⟨_, _, v2.1⟩, v2.2⟩); (· exact Or.inr ⟨x, y, ⟨_, _, v2.1⟩, v2.2⟩))⟩
  have good : ∀ H : am_H, H = am_up h 43 (rO 0 wd s.1 s.2.2.1 s.2.2.2.2.1) → okV i → okD part → am_W z 29 0 0 H [some (.ref 43), some (vI i), some (vI part), some (vI j), none, none, none] [] := by
    intro H e1 oi op
    have v2 := tv 0 H e1
    have k2 := v2.1.1
    obtain ⟨I, hI⟩ : ∃ I, I = i.toNat := ⟨_, rfl⟩
    have I1 : I < 150 := by have := oi.1; have := oi.2; omega
    have ei : i = (I : Int) := by have := oi.1; omega
    have oI := ok.2.1 I I1
    have op1 := op.1
    have op2 := op.2
    obtain ⟨A, hA⟩ : ∃ A, A = aPart s I part := ⟨_, rfl⟩
    rw [← hI, ← hA] at hT
    rw [ei]
    rw [ei] at hT oi
    have bA : bl A ≤ 800 := by
      rw [hA, aPart]
      by_cases c : part = 0
      · rw [if_pos c]; exact oI.2.2.2.1
      · rw [if_neg c]; exact oI.2.2.2.2
    obtain ⟨D, hD⟩ : ∃ D, D = dlen A := ⟨_, rfl⟩
    have D1 : 1 ≤ D := by rw [hD]; exact dlen_1 A
    have D2 : D ≤ 241 := by rw [hD]; exact dlen_le 241 A (by decide) (Nat.lt_of_lt_of_le (bl_le.mp bA) (by decide +kernel))
    rw [← hD] at hT
    have rest : ∀ (h3 : am_H) (wd3 : Nat) (R3 R5 : Nat → Int), eS h3 s 0 wd3 R3 → only h h3 K45 → A < 32768 ^ wd3 → rg R5 0 A → am_W z 63 0 0 (am_up h3 44 (eI 1920 R5)) [some (.ref 43), some (vI (I : Int)), some (vI part), some (vI j), none, none, none] [] := by
      intro h3 wd3 R3 R5 v3 o3 lA r5
      have v5 := v3.r (R' := R5)
      have k5 := v5.1
      have l10 : 10 < 32768 ^ wd3 := Nat.lt_of_lt_of_le (show 10 < 32768 ^ 1 by decide) (Nat.pow_le_pow_right (by decide) v3.2.2.1.1)
      have badj : ∀ (h4 : am_H) (R' : Nat → Int), h4 = am_up (am_up h3 44 (eI 1920 R')) 43 (rO 1 wd3 s.1 s.2.2.1 s.2.2.2.2.1) → ¬ (0 ≤ j ∧ j < (D : Int)) → am_W z 132 0 0 h4 [some (.ref 43), some (vI (I : Int)), some (vI part), some (vI j), some (vI (D : Int)), none, none] [] := by
        intro h4 R' e4 nj
        have v4 : eS h4 s 1 wd3 R' ∧ only h h4 K45 := by rw [e4]; exact ⟨(v3.r (R' := R')).o v3.2.2.1, o3.tr ((only.r (R := R3)).tr only.o)⟩
        have k4 := v4.1.1
        clear e4
        refine am_iconst hC dX5_digit_132 ?_
        refine am_istore5 hC dX5_digit_133 rfl ?_
        refine am_iconst hC dX5_digit_135 ?_
        refine am_istore6 hC dX5_digit_136 rfl ?_
        refine am_iload6 hC dX5_digit_138 ?_
        refine am_iload4 hC dX5_digit_140 ?_
        refine am_iload3 hC dX5_digit_142 ?_
        refine am_isub hC dX5_digit_143 ?_
        obtain ⟨u, hu, eu⟩ := vI_wrap ((D : Int) - j)
        rw [eu]
        refine am_icmp_ge hC 184 dX5_digit_144 rfl (by omega) (by omega) (fun c144 => ?_) (fun c144 => ?_)
        · refine am_iload5 hC dX5_digit_184 ?_
          exact am_iret hC hT dX5_digit_186 (by omega) (by omega) ⟨_, rfl, Or.inr (Or.inl ⟨Or.inr ⟨oi, op, nj⟩, ⟨_, _, v4.1⟩, v4.2⟩)⟩
        · refine am_aload0 hC dX5_digit_147 ?_
          refine am_getf hC dX5_digit_148 fX5_33 k4 rfl ?_
          refine am_if_ne hC 184 dX5_digit_151 rfl (by omega) (fun c151 => ?_) (fun c151 => ?_)
          · refine am_iload5 hC dX5_digit_184 ?_
            exact am_iret hC hT dX5_digit_186 (by omega) (by omega) ⟨_, rfl, Or.inr (Or.inl ⟨Or.inr ⟨oi, op, nj⟩, ⟨_, _, v4.1⟩, v4.2⟩)⟩
          · exact absurd c151 (by decide)
      have goodj : ∀ (h4 : am_H) (R' : Nat → Int), h4 = am_up (am_up h3 44 (eI 1920 R')) 43 (rO 0 wd3 s.1 s.2.2.1 s.2.2.2.2.1) → (0 ≤ j ∧ j < (D : Int)) → rg R' 0 A → rg R' 1 10 → am_W z 132 0 0 h4 [some (.ref 43), some (vI (I : Int)), some (vI part), some (vI j), some (vI (D : Int)), none, none] [] := by
        intro h4 R' e4 nj q0 q1
        have v4 : eS h4 s 0 wd3 R' ∧ only h h4 K45 := by rw [e4]; exact ⟨(v3.r (R' := R')).o v3.2.2.1, o3.tr ((only.r (R := R3)).tr only.o)⟩
        have k4 := v4.1.1
        clear e4
        obtain ⟨J, hJ⟩ : ∃ J : Nat, j = (J : Int) := ⟨j.toNat, by omega⟩
        have loop2 : ∀ (m k dgt : Nat) (h5 : am_H) (R6 : Nat → Int), k + m = D - J → eS h5 s 0 wd3 R6 → only h h5 K45 → rg R6 0 (A / 10 ^ k) → rg R6 1 10 → (1 ≤ k → dgt = A / 10 ^ (k - 1) % 10) → am_W z 138 0 0 h5 [some (.ref 43), some (vI (I : Int)), some (vI part), some (vI j), some (vI (D : Int)), some (vI (dgt : Int)), some (vI (k : Int))] [] := by
          intro m
          induction m with
          | zero =>
            intro k dgt h5 R6 hk v6 o6 p0 p1 hd
            have k6 := v6.1
            have ed : (dgt : Int) = aDigit A j.toNat := by rw [hd (by omega), aDigit, ← hD, show k - 1 = D - 1 - j.toNat by omega]
            refine am_iload6 hC dX5_digit_138 ?_
            refine am_iload4 hC dX5_digit_140 ?_
            refine am_iload3 hC dX5_digit_142 ?_
            refine am_isub hC dX5_digit_143 ?_
            refine am_icmp_ge hC 184 dX5_digit_144 rfl (by omega) (by omega) (fun c144 => ?_) (fun c144 => ?_)
            · refine am_iload5 hC dX5_digit_184 ?_
              exact am_iret hC hT dX5_digit_186 (by omega) (by omega) ⟨_, rfl, Or.inl ⟨oi, op, nj, ed, ⟨_, _, v6⟩, o6⟩⟩
            · exact absurd c144 (by omega)
          | succ m ih =>
            intro k dgt h5 R6 hk v6 o6 p0 p1 hd
            have k6 := v6.1
            obtain ⟨c, hc⟩ : ∃ c, c = A / 10 ^ k := ⟨_, rfl⟩
            have lc : c < 32768 ^ wd3 := Nat.lt_of_le_of_lt (by rw [hc]; exact Nat.div_le_self _ _) lA
            have c1 : A / 10 ^ (k + 1) = c / 10 := by rw [hc, Nat.div_div_eq_div_mul, ← Nat.pow_succ]
            rw [← hc] at p0
            refine am_iload6 hC dX5_digit_138 ?_
            refine am_iload4 hC dX5_digit_140 ?_
            refine am_iload3 hC dX5_digit_142 ?_
            refine am_isub hC dX5_digit_143 ?_
            refine am_icmp_ge hC 184 dX5_digit_144 rfl (by omega) (by omega) (fun c144 => ?_) (fun c144 => ?_)
            · exact absurd c144 (by omega)
            · refine am_aload0 hC dX5_digit_147 ?_
              refine am_getf hC dX5_digit_148 fX5_33 k6 rfl ?_
              refine am_if_ne hC 184 dX5_digit_151 rfl (by omega) (fun c151 => ?_) (fun c151 => ?_)
              · exact absurd rfl c151
              · refine am_aload0 hC dX5_digit_154 ?_
                refine am_iconst hC dX5_digit_155 ?_
                refine am_iconst hC dX5_digit_156 ?_
                refine am_iconst hC dX5_digit_157 ?_
                refine am_iconst hC dX5_digit_158 ?_
                refine am_V4_qN hC 5 dX5_digit_159 kX5_80 (m_Mdivide (x := 0) (y := 1) (q := 3) (t := 4) _ _ v6.x (by decide) (by decide) (by decide) (by decide) (by decide) (by decide) (by decide) (by decide) (by decide) p0 p1 lc l10 (by decide)) k6 rfl (Nat.le_of_ble_eq_true rfl) (by decide) (by omega) (by omega) (fun h7 rr => ?_)
                obtain ⟨R7, rfl, a7, b7, f7⟩ := rr
                have v7 := v6.r (R' := R7)
                have k7 := v7.1
                have g7 := am_up_at h5 44 (eI 1920 R7)
                have y7 := p1.on f7 (by decide)
                have e7 := b7 0 (by decide)
                have pz : pg (c % 10) 0 = c % 10 := by unfold pg; rw [hp_0]; omega
                rw [pz] at e7
                refine am_aload0 hC dX5_digit_162 ?_
                refine am_getf hC dX5_digit_163 fX5_13 k7 rfl ?_
                refine am_sipush hC dX5_digit_166 rfl ?_
                refine am_iald hC dX5_digit_169 g7 (by omega) (by omega) ?_
                rw [show ((640 : Int)).toNat = 160 * 4 + 0 from rfl, e7]
                refine am_istore5 hC dX5_digit_170 rfl ?_
                refine am_aload0 hC dX5_digit_172 ?_
                refine am_iconst hC dX5_digit_173 ?_
                refine am_iconst hC dX5_digit_174 ?_
                refine am_V2_qN hC 5 dX5_digit_175 kX5_62 (m_Mcopy (x := 0) (y := 3) _ _ v7.x (by decide) (by decide) a7) k7 rfl (Nat.le_of_ble_eq_true rfl) (by decide) (by omega) (by omega) (fun h8 rr => ?_)
                obtain ⟨R8, e8, a8, f8⟩ := rr
                rw [am_up_up] at e8
                subst e8
                have v8 := v6.r (R' := R8)
                have y8 := y7.kept f8 (by decide)
                refine am_iinc6 hC dX5_digit_178 rfl ?_
                refine am_goto hC 138 dX5_digit_181 rfl ?_
                rw [show (k : Int) + 1 = ((k + 1 : Nat) : Int) by omega]
                exact ih (k + 1) (c % 10) _ R8 (by omega) v8 (o6.tr (only.r (R := R6))) (by rw [c1]; exact a8) y8 (fun _ => by rw [hc]; rfl)
        refine am_iconst hC dX5_digit_132 ?_
        refine am_istore5 hC dX5_digit_133 rfl ?_
        refine am_iconst hC dX5_digit_135 ?_
        refine am_istore6 hC dX5_digit_136 rfl ?_
        exact loop2 (D - J) 0 0 h4 R' (by omega) v4.1 v4.2 (by rw [Nat.pow_zero, Nat.div_one]; exact q0) q1 (fun c => absurd c (by decide))
      have leave : ∀ R' : Nat → Int, rg R' 0 A → rg R' 1 10 → am_W z 113 0 0 (am_up h3 44 (eI 1920 R')) [some (.ref 43), some (vI (I : Int)), some (vI part), some (vI j), some (vI (D : Int)), none, none] [] := by
        intro R' q0 q1
        have v' := v3.r (R' := R')
        have k' := v'.1
        refine am_aload0 hC dX5_digit_113 ?_
        refine am_iload3 hC dX5_digit_114 ?_
        refine am_if_lt hC 124 dX5_digit_115 rfl (by omega) (fun c115 => ?_) (fun c115 => ?_)
        · refine am_iconst hC dX5_digit_124 ?_
          refine am_goto hC 129 dX5_digit_125 rfl ?_
          refine am_putf hC dX5_digit_129 pX5_33 (fun q => by cases q) k' (am_fitI _) (Nat.le_of_ble_eq_true rfl) ?_
          rw [rO_set0]
          first
            | exact badj _ R' rfl (by omega)
            | exact goodj _ R' rfl (by omega) q0 q1
        · refine am_iload3 hC dX5_digit_118 ?_
          refine am_iload4 hC dX5_digit_119 ?_
          refine am_icmp_lt hC 128 dX5_digit_121 rfl (by omega) (by omega) (fun c121 => ?_) (fun c121 => ?_)
          · refine am_iconst hC dX5_digit_128 ?_
            refine am_putf hC dX5_digit_129 pX5_33 (fun q => by cases q) k' (am_fitI _) (Nat.le_of_ble_eq_true rfl) ?_
            rw [rO_set0]
            first
              | exact badj _ R' rfl (by omega)
              | exact goodj _ R' rfl (by omega) q0 q1
          · refine am_iconst hC dX5_digit_124 ?_
            refine am_goto hC 129 dX5_digit_125 rfl ?_
            refine am_putf hC dX5_digit_129 pX5_33 (fun q => by cases q) k' (am_fitI _) (Nat.le_of_ble_eq_true rfl) ?_
            rw [rO_set0]
            first
              | exact badj _ R' rfl (by omega)
              | exact goodj _ R' rfl (by omega) q0 q1
      have loop1 : ∀ (m c d : Nat) (R' : Nat → Int), c ≤ m → c ≤ A → (d = 0 → 1 ≤ m) → ((d + dlen c = D ∧ (d = 0 ∨ c ≠ 0)) ∨ (c = 0 ∧ 1 ≤ d ∧ d = D)) → rg R' 0 A → rg R' 1 10 → rg R' 2 c → am_W z 80 0 0 (am_up h3 44 (eI 1920 R')) [some (.ref 43), some (vI (I : Int)), some (vI part), some (vI j), some (vI (d : Int)), none, none] [] := by
        intro m
        induction m with
        | zero =>
          intro c d R' cm cA d0 hd q0 q1 q2
          have v' := v3.r (R' := R')
          have k' := v'.1
          have cz : c = 0 := by omega
          have dD : d = D := by omega
          subst cz
          subst dD
          refine am_iload4 hC dX5_digit_80 ?_
          refine am_if_eq hC 93 dX5_digit_82 rfl (by omega) (fun c82 => ?_) (fun c82 => ?_)
          · exact absurd c82 (by omega)
          · refine am_aload0 hC dX5_digit_85 ?_
            refine am_iconst hC dX5_digit_86 ?_
            refine am_V1_pI hC 5 dX5_digit_87 kX5_58 (m_MisZero (x := 2) _ _ v'.x (by decide) q2 (by omega)) k' rfl (Nat.le_of_ble_eq_true rfl) (by decide) (by omega) (by omega) ?_
            rw [if_pos rfl]
            refine am_if_ne hC 113 dX5_digit_90 rfl (by omega) (fun c90 => ?_) (fun c90 => ?_)
            · exact leave R' q0 q1
            · exact absurd c90 (by decide)
        | succ m ih =>
          intro c d R' cm cA d0 hd q0 q1 q2
          have v' := v3.r (R' := R')
          have k' := v'.1
          have lc : c < 32768 ^ wd3 := Nat.lt_of_le_of_lt cA lA
          have d1 := dlen_1 c
          have step : (d = 0 ∨ c ≠ 0) → d + dlen c = D → am_W z 93 0 0 (am_up h3 44 (eI 1920 R')) [some (.ref 43), some (vI (I : Int)), some (vI part), some (vI j), some (vI (d : Int)), none, none] [] := by
            intro dc dl
            have nx : (d + 1 + dlen (c / 10) = D ∧ (d + 1 = 0 ∨ c / 10 ≠ 0)) ∨ (c / 10 = 0 ∧ 1 ≤ d + 1 ∧ d + 1 = D) := by
              rcases Nat.lt_or_ge c 10 with e | e
              · rw [dlen_lt e] at dl; omega
              · rw [dlen_ge e] at dl; omega
            refine am_aload0 hC dX5_digit_93 ?_
            refine am_iconst hC dX5_digit_94 ?_
            refine am_iconst hC dX5_digit_95 ?_
            refine am_iconst hC dX5_digit_96 ?_
            refine am_iconst hC dX5_digit_97 ?_
            refine am_V4_qN hC 5 dX5_digit_98 kX5_80 (m_Mdivide (x := 2) (y := 1) (q := 3) (t := 4) _ _ v'.x (by decide) (by decide) (by decide) (by decide) (by decide) (by decide) (by decide) (by decide) (by decide) q2 q1 lc l10 (by decide)) k' rfl (Nat.le_of_ble_eq_true rfl) (by decide) (by omega) (by omega) (fun h7 rr => ?_)
            obtain ⟨R7, e7, a7, -, f7⟩ := rr
            rw [am_up_up] at e7
            subst e7
            have v7 := v3.r (R' := R7)
            have k7 := v7.1
            have x7 := q0.on f7 (by decide)
            have y7 := q1.on f7 (by decide)
            refine am_aload0 hC dX5_digit_101 ?_
            refine am_iconst hC dX5_digit_102 ?_
            refine am_iconst hC dX5_digit_103 ?_
            refine am_V2_qN hC 5 dX5_digit_104 kX5_62 (m_Mcopy (x := 2) (y := 3) _ _ v7.x (by decide) (by decide) a7) k7 rfl (Nat.le_of_ble_eq_true rfl) (by decide) (by omega) (by omega) (fun h8 rr => ?_)
            obtain ⟨R8, e8, a8, f8⟩ := rr
            rw [am_up_up] at e8
            subst e8
            refine am_iinc4 hC dX5_digit_107 rfl ?_
            refine am_goto hC 80 dX5_digit_110 rfl ?_
            rw [show (d : Int) + 1 = ((d + 1 : Nat) : Int) by omega]
            exact ih (c / 10) (d + 1) R8 (by omega) (by omega) (by omega) nx (x7.kept f8 (by decide)) (y7.kept f8 (by decide)) a8
          refine am_iload4 hC dX5_digit_80 ?_
          refine am_if_eq hC 93 dX5_digit_82 rfl (by omega) (fun c82 => ?_) (fun c82 => ?_)
          · exact step (by omega) (by omega)
          · refine am_aload0 hC dX5_digit_85 ?_
            refine am_iconst hC dX5_digit_86 ?_
            refine am_V1_pI hC 5 dX5_digit_87 kX5_58 (m_MisZero (x := 2) _ _ v'.x (by decide) q2 lc) k' rfl (Nat.le_of_ble_eq_true rfl) (by decide) (by omega) (by omega) ?_
            obtain ⟨b, hb⟩ : ∃ b : Int, b = (if c = 0 then 1 else 0) := ⟨_, rfl⟩
            rw [← hb]
            have b1 : (c = 0 ∧ b = 1) ∨ (c ≠ 0 ∧ b = 0) := by by_cases e : c = 0; (· rw [if_pos e] at hb; exact Or.inl ⟨e, hb⟩); (· rw [if_neg e] at hb; exact Or.inr ⟨e, hb⟩)
            refine am_if_ne hC 113 dX5_digit_90 rfl (by omega) (fun c90 => ?_) (fun c90 => ?_)
            · rw [show d = D by omega]
              exact leave R' q0 q1
            · exact step (by omega) (by omega)
      refine am_aload0 hC dX5_digit_63 ?_
      refine am_iconst hC dX5_digit_64 ?_
      refine am_ldc2 hC (10) dX5_digit_65 cX5_134 rfl ?_
      refine am_V2_qN hC 5 dX5_digit_68 kX5_36 (m_Mset (x := 1) _ _ v5.x (by decide)) k5 rfl (Nat.le_of_ble_eq_true rfl) (by decide) (by omega) (by omega) (fun h6 r => ?_)
      obtain ⟨R6, e6, b6, f6⟩ := r
      rw [am_up_up] at e6
      subst e6
      rw [show ((10 : Int) % 18446744073709551616).toNat = 10 from rfl] at b6
      have v6 := v3.r (R' := R6)
      have k6 := v6.1
      have a6 := r5.kept f6 (by decide)
      refine am_iconst hC dX5_digit_71 ?_
      refine am_istore4 hC dX5_digit_72 rfl ?_
      refine am_aload0 hC dX5_digit_74 ?_
      refine am_iconst hC dX5_digit_75 ?_
      refine am_iconst hC dX5_digit_76 ?_
      refine am_V2_qN hC 5 dX5_digit_77 kX5_62 (m_Mcopy (x := 2) (y := 0) _ _ v6.x (by decide) (by decide) a6) k6 rfl (Nat.le_of_ble_eq_true rfl) (by decide) (by omega) (by omega) (fun h8 rr => ?_)
      obtain ⟨R8, e8, c8, f8⟩ := rr
      rw [am_up_up] at e8
      subst e8
      exact loop1 (A + 1) A 0 R8 (by omega) (by omega) (by omega) (by omega) (a6.kept f8 (by decide)) (b6.kept f8 (by decide)) c8
    refine am_aload0 hC dX5_digit_29 ?_
    refine am_getf hC dX5_digit_30 fX5_33 k2 rfl ?_
    refine am_if_le hC 38 dX5_digit_33 rfl (by omega) (fun c33 => ?_) (fun c33 => ?_)
    · refine am_aload0 hC dX5_digit_38 ?_
      refine am_iload1 hC dX5_digit_39 ?_
      refine am_iload1 hC dX5_digit_40 ?_
      refine am_iconst hC dX5_digit_41 ?_
      refine am_V3_qN hC 5 dX5_digit_42 kX5_94 (m_Mneed (more := 4) _ _ v2.1 I1 I1 (by decide) oI oI) k2 rfl (Nat.le_of_ble_eq_true rfl) (by decide) (by omega) (by omega) (fun h3 r => ?_)
      obtain ⟨wd3, ⟨n1, n2, hw, b1, b2, q1, q2, q3, q4⟩, e3⟩ := r
      have v3 : eS h3 s 0 wd3 R := by rw [e3]; exact v2.1.o (by omega)
      have o3 : only h h3 K45 := v2.2.tr (by rw [e3]; exact only.o)
      have k3 := v3.1
      clear e3
      have lw : 32768 ^ n1 ≤ 32768 ^ wd3 := Nat.pow_le_pow_right (by decide) (by omega)
      refine am_aload0 hC dX5_digit_45 ?_
      refine am_iload1 hC dX5_digit_46 ?_
      refine am_iconst hC dX5_digit_47 ?_
      refine am_iconst hC dX5_digit_48 ?_
      refine am_V3_qN hC 5 dX5_digit_49 kX5_98 (m_Mtake (x := 0) (y := 1) _ _ v3 I1 oI (by decide) (by decide) (by decide)) k3 rfl (Nat.le_of_ble_eq_true rfl) (by decide) (by omega) (by omega) (fun h4 r => ?_)
      obtain ⟨R4, rfl, a4, b4, f4⟩ := r
      have v4 := v3.r (R' := R4)
      have k4 := v4.1
      refine am_iload2 hC dX5_digit_52 ?_
      refine am_iconst hC dX5_digit_53 ?_
      refine am_icmp_ne hC 63 dX5_digit_54 rfl (by omega) (by omega) (fun c54 => ?_) (fun c54 => ?_)
      · first
          | exact rest h3 wd3 R R4 v3 o3 (by rw [hA, aPart, if_pos (by omega)]; omega) (by rw [hA, aPart, if_pos (by omega)]; exact a4)
          | exact rest h3 wd3 R R8 v3 o3 (by rw [hA, aPart, if_neg (by omega)]; omega) (by rw [hA, aPart, if_neg (by omega)]; exact a8)
      · refine am_aload0 hC dX5_digit_57 ?_
        refine am_iconst hC dX5_digit_58 ?_
        refine am_iconst hC dX5_digit_59 ?_
        refine am_V2_qN hC 5 dX5_digit_60 kX5_62 (m_Mcopy (x := 0) (y := 1) _ _ v4.x (by decide) (by decide) b4) k4 rfl (Nat.le_of_ble_eq_true rfl) (by decide) (by omega) (by omega) (fun h8 rr => ?_)
        obtain ⟨R8, e8, a8, f8⟩ := rr
        rw [am_up_up] at e8
        subst e8
        first
          | exact rest h3 wd3 R R4 v3 o3 (by rw [hA, aPart, if_pos (by omega)]; omega) (by rw [hA, aPart, if_pos (by omega)]; exact a4)
          | exact rest h3 wd3 R R8 v3 o3 (by rw [hA, aPart, if_neg (by omega)]; omega) (by rw [hA, aPart, if_neg (by omega)]; exact a8)
    · exact absurd c33 (by decide)
  refine am_aload0 hC dX5_digit_0 ?_
  refine am_iload1 hC dX5_digit_1 ?_
  refine am_S1_qI hC dX5_digit_2 kX5_91 (m_MnoValue _ _ hi) (Nat.le_of_ble_eq_true rfl) (by decide) (by omega) (by omega) (fun v h1 q => ?_)
  obtain ⟨e, q⟩ := q
  rw [e]
  clear e
  have nq : v ≠ 0 → ¬ okV i := fun c => by rcases q with x | x; (· exact absurd x.1 c); (· exact x.2)
  have yq : v = 0 → okV i := fun c => by rcases q with x | x; (· exact x.2); (· omega)
  refine am_if_eq hC 12 dX5_digit_5 rfl (by omega) (fun c5 => ?_) (fun c5 => ?_)
  · refine am_iload2 hC dX5_digit_12 ?_
    refine am_if_lt hC 21 dX5_digit_13 rfl (by omega) (fun c13 => ?_) (fun c13 => ?_)
    · refine am_iconst hC dX5_digit_21 ?_
      refine am_goto hC 26 dX5_digit_22 rfl ?_
      refine am_putf hC dX5_digit_26 pX5_33 (fun q => by cases q) h0 (am_fitI _) (Nat.le_of_ble_eq_true rfl) ?_
      rw [rO_set0]
      first
        | exact bad _ 1 (by omega) rfl (Or.inl ⟨rfl, nq (by omega)⟩)
        | exact bad _ 2 (by omega) rfl (Or.inr ⟨rfl, yq (by omega), fun c => by have := c.1; have := c.2; omega⟩)
        | exact good _ rfl (yq (by omega)) ⟨by omega, by omega⟩
    · refine am_iload2 hC dX5_digit_16 ?_
      refine am_iconst hC dX5_digit_17 ?_
      refine am_icmp_le hC 25 dX5_digit_18 rfl (by omega) (by omega) (fun c18 => ?_) (fun c18 => ?_)
      · refine am_iconst hC dX5_digit_25 ?_
        refine am_putf hC dX5_digit_26 pX5_33 (fun q => by cases q) h0 (am_fitI _) (Nat.le_of_ble_eq_true rfl) ?_
        rw [rO_set0]
        first
          | exact bad _ 1 (by omega) rfl (Or.inl ⟨rfl, nq (by omega)⟩)
          | exact bad _ 2 (by omega) rfl (Or.inr ⟨rfl, yq (by omega), fun c => by have := c.1; have := c.2; omega⟩)
          | exact good _ rfl (yq (by omega)) ⟨by omega, by omega⟩
      · refine am_iconst hC dX5_digit_21 ?_
        refine am_goto hC 26 dX5_digit_22 rfl ?_
        refine am_putf hC dX5_digit_26 pX5_33 (fun q => by cases q) h0 (am_fitI _) (Nat.le_of_ble_eq_true rfl) ?_
        rw [rO_set0]
        first
          | exact bad _ 1 (by omega) rfl (Or.inl ⟨rfl, nq (by omega)⟩)
          | exact bad _ 2 (by omega) rfl (Or.inr ⟨rfl, yq (by omega), fun c => by have := c.1; have := c.2; omega⟩)
          | exact good _ rfl (yq (by omega)) ⟨by omega, by omega⟩
  · refine am_iconst hC dX5_digit_8 ?_
    refine am_goto hC 26 dX5_digit_9 rfl ?_
    refine am_putf hC dX5_digit_26 pX5_33 (fun q => by cases q) h0 (am_fitI _) (Nat.le_of_ble_eq_true rfl) ?_
    rw [rO_set0]
    first
      | exact bad _ 1 (by omega) rfl (Or.inl ⟨rfl, nq (by omega)⟩)
      | exact bad _ 2 (by omega) rfl (Or.inr ⟨rfl, yq (by omega), fun c => by have := c.1; have := c.2; omega⟩)
      | exact good _ rfl (yq (by omega)) ⟨by omega, by omega⟩

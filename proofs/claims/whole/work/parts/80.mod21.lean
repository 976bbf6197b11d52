/-! the Model's round -/
theorem m_Mround (l : Launch) (g : am_G) {h : am_H} {s : aS} {th i rule unit : Int} {wd : Nat} {R : Nat → Int} (w : eS h s th wd R) (ok : aOK s) (hi : IR i) (hr : IR rule) (hu : -9223372036854775808 ≤ unit ∧ unit ≤ 9223372036854775807) :
    am_Met l g yX5_round (am_W1 yX5_round cX5_round 10 (some .int)) 4 0 0 [.ref 43, vI i, vI rule, vL unit] h (qI fun v h1 => (okV i ∧ okQ rule unit ∧ v = (aRound s i.toNat rule unit.natAbs).1 ∧ mOut h h1 0 (aRound s i.toNat rule unit.natAbs).2) ∨ (¬ okV i ∧ mOut h h1 1 s) ∨ (okV i ∧ ¬ okQ rule unit ∧ mOut h h1 2 s)) := by
  have h0 := w.1
  refine am_mk [some (.ref 43), some (vI i), some (vI rule), some (vL unit), none, none, none, none, none, none] 5 rfl rfl (by decide +kernel) (fun z hl hg hC hT _ => ?_)
  have tv : ∀ (t : Int) (H : am_H), H = am_up h 43 (rO t wd s.1 s.2.2.1 s.2.2.2.2.1) → eS H s t wd R ∧ only h H K45 := fun t H et => by rw [et]; exact ⟨w.o w.2.2.1, only.o⟩
  have bad : ∀ (H : am_H) (e : Int), 1 ≤ e ∧ e ≤ 2 → H = am_up h 43 (rO e wd s.1 s.2.2.1 s.2.2.2.2.1) → ((e = 1 ∧ ¬ okV i) ∨ (e = 2 ∧ okV i ∧ ¬ okQ rule unit)) → am_W z 35 0 0 H [some (.ref 43), some (vI i), some (vI rule), some (vL unit), none, none, none, none, none, none] [] := by
    intro H e he e1 nb
    have v2 := tv e H e1
    have k2 := v2.1.1
    refine am_aload0 hC dX5_round_35 ?_
    refine am_getf hC dX5_round_36 fX5_33 k2 rfl ?_
    refine am_if_le hC 44 dX5_round_39 rfl (by omega) (fun c39 => ?_) (fun c39 => ?_)
    · exact absurd c39 (by omega)
    · refine am_iconst hC dX5_round_42 ?_
      exact am_iret hC hT dX5_round_43 (by omega) (by omega) ⟨_, rfl, Or.inr (by rcases nb with ⟨rfl, x⟩ | ⟨rfl, x, y⟩; (· exact Or.inl ⟨x, ⟨_, _, v2.1⟩, v2.2⟩); (· exact Or.inr ⟨x, y, ⟨_, _, v2.1⟩, v2.2⟩))⟩
  have good : ∀ H : am_H, H = am_up h 43 (rO 0 wd s.1 s.2.2.1 s.2.2.2.2.1) → okV i → okQ rule unit → am_W z 35 0 0 H [some (.ref 43), some (vI i), some (vI rule), some (vL unit), none, none, none, none, none, none] [] := by
    intro H e1 oi oq
    have v2 := tv 0 H e1
    have k2 := v2.1.1
    obtain ⟨I, hI⟩ : ∃ I, I = i.toNat := ⟨_, rfl⟩
    have I1 : I < 150 := by have := oi.1; have := oi.2; omega
    have ei : i = (I : Int) := by have := oi.1; omega
    have oI := ok.2.1 I I1
    have oq1 := oq.1.1
    have oq2 := oq.1.2
    have oq3 := oq.2
    obtain ⟨U, hU⟩ : ∃ U, U = unit.natAbs := ⟨_, rfl⟩
    have U0 : 0 < U := by omega
    have lU : U < 32768 ^ 5 := Nat.lt_of_le_of_lt (show U ≤ 9223372036854775807 by omega) (by decide)
    have lU2 : 2 * U < 32768 ^ 5 := Nat.lt_of_le_of_lt (show 2 * U ≤ 18446744073709551614 by omega) (by decide)
    rw [← hI, ← hU] at hT
    rw [ei]
    rw [ei] at hT oi
    obtain ⟨u, hu'⟩ : ∃ u, u = s.2.1 I := ⟨_, rfl⟩
    rw [← hu'] at oI
    obtain ⟨D, hD⟩ : ∃ D, D = u.2.2 * U := ⟨_, rfl⟩
    have D0 : 0 < D := by rw [hD]; exact Nat.mul_pos oI.2.2.1 U0
    obtain ⟨Q, hQ⟩ : ∃ Q, Q = u.2.1 / D := ⟨_, rfl⟩
    obtain ⟨M, hM⟩ : ∃ M, M = u.2.1 % D := ⟨_, rfl⟩
    have M1 : M < D := by rw [hM]; exact Nat.mod_lt _ D0
    have Q1 : Q ≤ u.2.1 := by rw [hQ]; exact Nat.div_le_self _ _
    have M0 : M ≠ 0 → u.1 ≠ 0 := fun c e => c (by rw [hM, oI.2.1.mp e, Nat.zero_mod])
    obtain ⟨gr, hgr⟩ : ∃ gr, gr = aGr u.1 rule Q M D := ⟨_, rfl⟩
    have gr1 : gr ≤ 1 := by rw [hgr, aGr]; split <;> omega
    have aA : aRound s I rule U = aPut s u.1 ((Q + gr) * U) 1 := by rw [aRound, ← hu', ← hD, ← hQ, ← hM, ← hgr]
    have sg3 := oI.1
    have rest : ∀ (h3 : am_H) (wd3 n1 : Nat) (R3 : Nat → Int), eS h3 s 0 wd3 R3 → only h h3 K45 → n1 + 6 ≤ wd3 → u.2.1 < 32768 ^ n1 → u.2.2 < 32768 ^ n1 → am_W z 52 0 0 h3 [some (.ref 43), some (vI (I : Int)), some (vI rule), some (vL unit), none, none, none, none, none, none] [] := by
      intro h3 wd3 n1 R3 v3 o3 hn q1 q2
      have k3 := v3.1
      have lD : D < 32768 ^ wd3 := by rw [hD]; exact fitM q2 lU (by omega)
      have lD2 : 2 * D < 32768 ^ wd3 := by rw [hD, Nat.mul_left_comm]; exact fitM q2 lU2 (by omega)
      have ps := Nat.pow_succ 32768 n1
      have lP : (Q + gr) * U < 32768 ^ wd3 := fitM (n1 := n1 + 1) (by omega) lU (by omega)
      have lw : 32768 ^ (n1 + 1) ≤ 32768 ^ wd3 := Nat.pow_le_pow_right (by decide) (by omega)
      have l1 : 1 < 32768 ^ wd3 := by omega
      have tail : ∀ (R' : Nat → Int) (b5 b6 b7 b8 : Int), rg R' 4 (Q + gr) → rg R' 2 U → am_W z 236 0 0 (am_up h3 44 (eI 1920 R')) [some (.ref 43), some (vI (I : Int)), some (vI rule), some (vL unit), none, some (vI b5), some (vI b6), some (vI b7), some (vI b8), some (vI (gr : Int))] [] := by
        intro R' b5 b6 b7 b8 p4 p2
        have v4 := v3.r (R' := R')
        have k4 := v4.1
        refine am_aload0 hC dX5_round_236 ?_
        refine am_iconst hC dX5_round_237 ?_
        refine am_iconst hC dX5_round_238 ?_
        refine am_iconst hC dX5_round_239 ?_
        refine am_V3_qN hC 5 dX5_round_240 kX5_101 (m_Mproduct (x := 4) (y := 2) (t := 5) _ _ v4.x (by decide) (by decide) (by decide) (by decide) (by decide) p4 p2 lP) k4 rfl (Nat.le_of_ble_eq_true rfl) (by decide) (by omega) (by omega) (fun h7 r => ?_)
        obtain ⟨R7, e7, g7, f7⟩ := r
        rw [am_up_up] at e7
        subst e7
        have v7 := v3.r (R' := R7)
        have k7 := v7.1
        refine am_aload0 hC dX5_round_243 ?_
        refine am_iconst hC dX5_round_244 ?_
        refine am_lconst1 hC dX5_round_245 ?_
        refine am_V2_qN hC 5 dX5_round_246 kX5_36 (m_Mset (x := 3) _ _ v7.x (by decide)) k7 rfl (Nat.le_of_ble_eq_true rfl) (by decide) (by omega) (by omega) (fun h8 r => ?_)
        obtain ⟨R8, e8, g8, f8⟩ := r
        rw [am_up_up] at e8
        subst e8
        rw [show ((1 : Int) % 18446744073709551616).toNat = 1 from rfl] at g8
        have v8 := v3.r (R' := R8)
        have k8 := v8.1
        have g78 := g7.kept f8 (by decide)
        obtain ⟨⟨fs, s1, s2⟩, -, -⟩ := v8.2.2.2.1
        refine am_aload0 hC dX5_round_249 ?_
        refine am_aload0 hC dX5_round_250 ?_
        refine am_getf hC dX5_round_251 fX5_17 k8 rfl ?_
        refine am_iload1 hC dX5_round_254 ?_
        refine am_iald hC dX5_round_255 s1 (by omega) (by omega) ?_
        refine am_iconst hC dX5_round_256 ?_
        refine am_iconst hC dX5_round_257 ?_
        rw [Int.toNat_natCast, s2 I I1, ← hu']
        refine am_V3_qI hC 5 dX5_round_258 kX5_87 (m_Mmake (x := 5) (y := 3) _ _ v8 ok.1 (by decide) (by decide) g78 g8 lP l1 (by decide)) k8 rfl (Nat.le_of_ble_eq_true rfl) (by decide) (by omega) (by omega) (fun v h9 r => ?_)
        obtain ⟨ev, ⟨R9, v9, -⟩, o9⟩ := r
        exact am_iret hC hT dX5_round_261 (by omega) (by omega) ⟨_, rfl, Or.inl ⟨oi, oq, by rw [aA]; exact ev, ⟨_, _, by rw [aA]; exact v9⟩, o3.tr ((only.r (R := R3)).tr o9)⟩⟩
      have fin : ∀ (R' : Nat → Int) (mo b5 b6 b7 b8 : Int), mo = (gr : Int) → rg R' 4 Q → rg R' 2 U → am_W z 217 0 0 (am_up h3 44 (eI 1920 R')) [some (.ref 43), some (vI (I : Int)), some (vI rule), some (vL unit), none, some (vI b5), some (vI b6), some (vI b7), some (vI b8), none] [vI mo] := by
        intro R' mo b5 b6 b7 b8 em p4 p2
        rw [em]
        have v4 := v3.r (R' := R')
        have k4 := v4.1
        refine am_istore9 hC dX5_round_217 rfl ?_
        refine am_iload9 hC dX5_round_219 ?_
        refine am_if_eq hC 236 dX5_round_221 rfl (by omega) (fun c221 => ?_) (fun c221 => ?_)
        · first
            | exact tail R' _ _ _ _ (by rw [show Q + gr = Q by omega]; exact p4) p2
            | exact tail R6 _ _ _ _ (by rw [show Q + gr = Q + 1 by omega]; exact c6) p26
        · refine am_aload0 hC dX5_round_224 ?_
          refine am_iconst hC dX5_round_225 ?_
          refine am_lconst1 hC dX5_round_226 ?_
          refine am_V2_qN hC 5 dX5_round_227 kX5_36 (m_Mset (x := 5) _ _ v4.x (by decide)) k4 rfl (Nat.le_of_ble_eq_true rfl) (by decide) (by omega) (by omega) (fun h5 r => ?_)
          obtain ⟨R5, e5, c5, f5⟩ := r
          rw [am_up_up] at e5
          subst e5
          rw [show ((1 : Int) % 18446744073709551616).toNat = 1 from rfl] at c5
          have v5 := v3.r (R' := R5)
          have k5 := v5.1
          have p45 := p4.kept f5 (by decide)
          have p25 := p2.kept f5 (by decide)
          refine am_aload0 hC dX5_round_230 ?_
          refine am_iconst hC dX5_round_231 ?_
          refine am_iconst hC dX5_round_232 ?_
          refine am_V2_qN hC 5 dX5_round_233 kX5_104 (m_Mplus (x := 4) (y := 5) _ _ v5.x (by decide) (by decide) (by decide) p45 c5 (by omega)) k5 rfl (Nat.le_of_ble_eq_true rfl) (by decide) (by omega) (by omega) (fun h6 r => ?_)
          obtain ⟨R6, e6, c6, f6⟩ := r
          rw [am_up_up] at e6
          subst e6
          have p26 := p25.kept f6 (by decide)
          first
            | exact tail R' _ _ _ _ (by rw [show Q + gr = Q by omega]; exact p4) p2
            | exact tail R6 _ _ _ _ (by rw [show Q + gr = Q + 1 by omega]; exact c6) p26
      have cs := cmpN_s (2 * M) D
      obtain ⟨fa, hfa⟩ : ∃ fa, fa = cmpN (2 * M) D := ⟨_, rfl⟩
      rw [← hfa] at cs
      have L139 : ∀ (R' : Nat → Int) (b5 b7 b8 : Int), ((b5 = 1 ∧ M ≠ 0) ∨ (b5 = 0 ∧ M = 0)) → ((b7 = 1 ∧ u.1 < 0) ∨ (b7 = 0 ∧ ¬ u.1 < 0)) → ((b8 = 1 ∧ Q % 2 = 1) ∨ (b8 = 0 ∧ Q % 2 = 0)) → rg R' 4 Q → rg R' 2 U → am_W z 139 0 0 (am_up h3 44 (eI 1920 R')) [some (.ref 43), some (vI (I : Int)), some (vI rule), some (vL unit), none, some (vI b5), some (vI fa), some (vI b7), some (vI b8), none] [] := by
        intro R' b5 b7 b8 h5 h7 h8 p4 p2
        refine am_iload2 hC dX5_round_139 ?_
        refine am_if_ne hC 161 dX5_round_140 rfl (by omega) (fun c140 => ?_) (fun c140 => ?_)
        · refine am_iload2 hC dX5_round_161 ?_
          refine am_iconst hC dX5_round_162 ?_
          refine am_icmp_ne hC 184 dX5_round_163 rfl (by omega) (by omega) (fun c163 => ?_) (fun c163 => ?_)
          · refine am_iload6 hC dX5_round_184 ?_
            refine am_if_gt hC 212 dX5_round_186 rfl (by omega) (fun c186 => ?_) (fun c186 => ?_)
            · refine am_iconst hC dX5_round_212 ?_
              refine am_goto hC 217 dX5_round_213 rfl ?_
              first
                | exact fin R' 1 _ _ _ _ (by rw [hgr]; exact aGr_y (by omega)) p4 p2
                | exact fin R' 0 _ _ _ _ (by rw [hgr]; exact aGr_n (by omega)) p4 p2
            · refine am_iload6 hC dX5_round_189 ?_
              refine am_if_ne hC 216 dX5_round_191 rfl (by omega) (fun c191 => ?_) (fun c191 => ?_)
              · refine am_iconst hC dX5_round_216 ?_
                first
                  | exact fin R' 1 _ _ _ _ (by rw [hgr]; exact aGr_y (by omega)) p4 p2
                  | exact fin R' 0 _ _ _ _ (by rw [hgr]; exact aGr_n (by omega)) p4 p2
              · refine am_iload2 hC dX5_round_194 ?_
                refine am_iconst hC dX5_round_195 ?_
                refine am_icmp_ne hC 207 dX5_round_196 rfl (by omega) (by omega) (fun c196 => ?_) (fun c196 => ?_)
                · refine am_iload8 hC dX5_round_207 ?_
                  refine am_if_eq hC 216 dX5_round_209 rfl (by omega) (fun c209 => ?_) (fun c209 => ?_)
                  · refine am_iconst hC dX5_round_216 ?_
                    first
                      | exact fin R' 1 _ _ _ _ (by rw [hgr]; exact aGr_y (by omega)) p4 p2
                      | exact fin R' 0 _ _ _ _ (by rw [hgr]; exact aGr_n (by omega)) p4 p2
                  · refine am_iconst hC dX5_round_212 ?_
                    refine am_goto hC 217 dX5_round_213 rfl ?_
                    first
                      | exact fin R' 1 _ _ _ _ (by rw [hgr]; exact aGr_y (by omega)) p4 p2
                      | exact fin R' 0 _ _ _ _ (by rw [hgr]; exact aGr_n (by omega)) p4 p2
                · refine am_iload7 hC dX5_round_199 ?_
                  refine am_if_ne hC 216 dX5_round_201 rfl (by omega) (fun c201 => ?_) (fun c201 => ?_)
                  · refine am_iconst hC dX5_round_216 ?_
                    first
                      | exact fin R' 1 _ _ _ _ (by rw [hgr]; exact aGr_y (by omega)) p4 p2
                      | exact fin R' 0 _ _ _ _ (by rw [hgr]; exact aGr_n (by omega)) p4 p2
                  · refine am_goto hC 212 dX5_round_204 rfl ?_
                    refine am_iconst hC dX5_round_212 ?_
                    refine am_goto hC 217 dX5_round_213 rfl ?_
                    first
                      | exact fin R' 1 _ _ _ _ (by rw [hgr]; exact aGr_y (by omega)) p4 p2
                      | exact fin R' 0 _ _ _ _ (by rw [hgr]; exact aGr_n (by omega)) p4 p2
          · refine am_iload7 hC dX5_round_166 ?_
            refine am_if_ne hC 180 dX5_round_168 rfl (by omega) (fun c168 => ?_) (fun c168 => ?_)
            · refine am_iconst hC dX5_round_180 ?_
              refine am_goto hC 217 dX5_round_181 rfl ?_
              first
                | exact fin R' 1 _ _ _ _ (by rw [hgr]; exact aGr_y (by omega)) p4 p2
                | exact fin R' 0 _ _ _ _ (by rw [hgr]; exact aGr_n (by omega)) p4 p2
            · refine am_iload5 hC dX5_round_171 ?_
              refine am_if_eq hC 180 dX5_round_173 rfl (by omega) (fun c173 => ?_) (fun c173 => ?_)
              · refine am_iconst hC dX5_round_180 ?_
                refine am_goto hC 217 dX5_round_181 rfl ?_
                first
                  | exact fin R' 1 _ _ _ _ (by rw [hgr]; exact aGr_y (by omega)) p4 p2
                  | exact fin R' 0 _ _ _ _ (by rw [hgr]; exact aGr_n (by omega)) p4 p2
              · refine am_iconst hC dX5_round_176 ?_
                refine am_goto hC 217 dX5_round_177 rfl ?_
                first
                  | exact fin R' 1 _ _ _ _ (by rw [hgr]; exact aGr_y (by omega)) p4 p2
                  | exact fin R' 0 _ _ _ _ (by rw [hgr]; exact aGr_n (by omega)) p4 p2
        · refine am_iload7 hC dX5_round_143 ?_
          refine am_if_eq hC 157 dX5_round_145 rfl (by omega) (fun c145 => ?_) (fun c145 => ?_)
          · refine am_iconst hC dX5_round_157 ?_
            refine am_goto hC 217 dX5_round_158 rfl ?_
            first
              | exact fin R' 1 _ _ _ _ (by rw [hgr]; exact aGr_y (by omega)) p4 p2
              | exact fin R' 0 _ _ _ _ (by rw [hgr]; exact aGr_n (by omega)) p4 p2
          · refine am_iload5 hC dX5_round_148 ?_
            refine am_if_eq hC 157 dX5_round_150 rfl (by omega) (fun c150 => ?_) (fun c150 => ?_)
            · refine am_iconst hC dX5_round_157 ?_
              refine am_goto hC 217 dX5_round_158 rfl ?_
              first
                | exact fin R' 1 _ _ _ _ (by rw [hgr]; exact aGr_y (by omega)) p4 p2
                | exact fin R' 0 _ _ _ _ (by rw [hgr]; exact aGr_n (by omega)) p4 p2
            · refine am_iconst hC dX5_round_153 ?_
              refine am_goto hC 217 dX5_round_154 rfl ?_
              first
                | exact fin R' 1 _ _ _ _ (by rw [hgr]; exact aGr_y (by omega)) p4 p2
                | exact fin R' 0 _ _ _ _ (by rw [hgr]; exact aGr_n (by omega)) p4 p2
      refine am_aload0 hC dX5_round_52 ?_
      refine am_iload1 hC dX5_round_53 ?_
      refine am_iconst hC dX5_round_54 ?_
      refine am_iconst hC dX5_round_55 ?_
      refine am_V3_qN hC 5 dX5_round_56 kX5_98 (m_Mtake (x := 0) (y := 1) _ _ v3 I1 (by rw [← hu']; exact oI) (by decide) (by decide) (by decide)) k3 rfl (Nat.le_of_ble_eq_true rfl) (by decide) (by omega) (by omega) (fun h4 r => ?_)
      obtain ⟨R4, rfl, a4, b4, f4⟩ := r
      rw [← hu'] at a4 b4
      have v4 := v3.r (R' := R4)
      have k4 := v4.1
      refine am_aload0 hC dX5_round_59 ?_
      refine am_iconst hC dX5_round_60 ?_
      refine am_lload3 hC dX5_round_61 ?_
      refine am_V2_qN hC 5 dX5_round_62 kX5_36 (m_Mset (x := 2) _ _ v4.x (by decide)) k4 rfl (Nat.le_of_ble_eq_true rfl) (by decide) (by omega) (by omega) (fun h5 r => ?_)
      obtain ⟨R5, e5, c5, f5⟩ := r
      rw [am_up_up] at e5
      subst e5
      rw [show (unit % 18446744073709551616).toNat = U by omega] at c5
      have v5 := v3.r (R' := R5)
      have k5 := v5.1
      have a5 := a4.kept f5 (by decide)
      have b5 := b4.kept f5 (by decide)
      refine am_aload0 hC dX5_round_65 ?_
      refine am_iconst hC dX5_round_66 ?_
      refine am_iconst hC dX5_round_67 ?_
      refine am_iconst hC dX5_round_68 ?_
      refine am_V3_qN hC 5 dX5_round_69 kX5_101 (m_Mproduct (x := 1) (y := 2) (t := 3) _ _ v5.x (by decide) (by decide) (by decide) (by decide) (by decide) b5 c5 (by rw [← hD]; exact lD)) k5 rfl (Nat.le_of_ble_eq_true rfl) (by decide) (by omega) (by omega) (fun h6 r => ?_)
      obtain ⟨R6, e6, d6, f6⟩ := r
      rw [am_up_up] at e6
      subst e6
      rw [← hD] at d6
      have v6 := v3.r (R' := R6)
      have k6 := v6.1
      have a6 := a5.kept f6 (by decide)
      have c6 := c5.kept f6 (by decide)
      refine am_aload0 hC dX5_round_72 ?_
      refine am_iconst hC dX5_round_73 ?_
      refine am_iconst hC dX5_round_74 ?_
      refine am_iconst hC dX5_round_75 ?_
      refine am_iconst hC dX5_round_76 ?_
      refine am_V4_qN hC 5 dX5_round_77 kX5_80 (m_Mdivide (x := 0) (y := 3) (q := 4) (t := 5) _ _ v6.x (by decide) (by decide) (by decide) (by decide) (by decide) (by decide) (by decide) (by decide) (by decide) a6 d6 (by omega) lD D0) k6 rfl (Nat.le_of_ble_eq_true rfl) (by decide) (by omega) (by omega) (fun h7 rr => ?_)
      obtain ⟨R7, e7, q7, r7, f7⟩ := rr
      rw [am_up_up] at e7
      subst e7
      rw [← hQ] at q7
      rw [← hM] at r7
      have v7 := v3.r (R' := R7)
      have k7 := v7.1
      have c7 := c6.on f7 (by decide)
      have d7 := d6.on f7 (by decide)
      refine am_aload0 hC dX5_round_80 ?_
      refine am_iconst hC dX5_round_81 ?_
      refine am_V1_pI hC 5 dX5_round_82 kX5_58 (m_MisZero (x := 5) _ _ v7.x (by decide) r7 (by omega)) k7 rfl (Nat.le_of_ble_eq_true rfl) (by decide) (by omega) (by omega) ?_
      obtain ⟨b, hb⟩ : ∃ b : Int, b = (if M = 0 then 1 else 0) := ⟨_, rfl⟩
      rw [← hb]
      have hb1 : (b = 1 ∧ M = 0) ∨ (b = 0 ∧ M ≠ 0) := by by_cases e : M = 0; (· rw [if_pos e] at hb; exact Or.inl ⟨hb, e⟩); (· rw [if_neg e] at hb; exact Or.inr ⟨hb, e⟩)
      clear hb
      refine am_if_ne hC 92 dX5_round_85 rfl (by omega) (fun c85 => ?_) (fun c85 => ?_)
      · refine am_iconst hC dX5_round_92 ?_
        refine am_istore5 hC dX5_round_93 rfl ?_
        refine am_aload0 hC dX5_round_95 ?_
        refine am_iconst hC dX5_round_96 ?_
        refine am_V1_qN hC 5 dX5_round_97 kX5_46 (m_Mtwice (x := 5) _ _ v7.x (by decide) r7 (by omega)) k7 rfl (Nat.le_of_ble_eq_true rfl) (by decide) (by omega) (by omega) (fun h8 r => ?_)
        obtain ⟨R8, e8, r8, f8⟩ := r
        rw [am_up_up] at e8
        subst e8
        have v8 := v3.r (R' := R8)
        have k8 := v8.1
        have c8 := c7.kept f8 (by decide)
        have d8 := d7.kept f8 (by decide)
        have q8 := q7.kept f8 (by decide)
        obtain ⟨⟨fs, s1, s2⟩, -, -⟩ := v8.2.2.2.1
        refine am_aload0 hC dX5_round_100 ?_
        refine am_iconst hC dX5_round_101 ?_
        refine am_iconst hC dX5_round_102 ?_
        refine am_V2_pI hC 5 dX5_round_103 kX5_50 (m_Mcompare (x := 5) (y := 3) _ _ v8.x (by decide) (by decide) r8 d8 (by omega) lD) k8 rfl (Nat.le_of_ble_eq_true rfl) (by decide) (by omega) (by omega) ?_
        rw [← hfa]
        refine am_istore6 hC dX5_round_106 rfl ?_
        refine am_aload0 hC dX5_round_108 ?_
        refine am_getf hC dX5_round_109 fX5_17 k8 rfl ?_
        refine am_iload1 hC dX5_round_112 ?_
        refine am_iald hC dX5_round_113 s1 (by omega) (by omega) ?_
        rw [Int.toNat_natCast, s2 I I1, ← hu']
        refine am_if_ge hC 121 dX5_round_114 rfl (by omega) (fun c114 => ?_) (fun c114 => ?_)
        · refine am_iconst hC dX5_round_121 ?_
          refine am_istore7 hC dX5_round_122 rfl ?_
          refine am_aload0 hC dX5_round_124 ?_
          refine am_iconst hC dX5_round_125 ?_
          refine am_V1_pI hC 5 dX5_round_126 kX5_65 (m_MisEven (x := 4) _ _ v8.x (by decide) q8) k8 rfl (Nat.le_of_ble_eq_true rfl) (by decide) (by omega) (by omega) ?_
          obtain ⟨b2, hb2⟩ : ∃ b2 : Int, b2 = (if Q % 2 = 0 then 1 else 0) := ⟨_, rfl⟩
          rw [← hb2]
          have hb3 : (b2 = 1 ∧ Q % 2 = 0) ∨ (b2 = 0 ∧ Q % 2 = 1) := by by_cases e : Q % 2 = 0; (· rw [if_pos e] at hb2; exact Or.inl ⟨hb2, e⟩); (· rw [if_neg e] at hb2; exact Or.inr ⟨hb2, by omega⟩)
          clear hb2
          refine am_if_ne hC 136 dX5_round_129 rfl (by omega) (fun c129 => ?_) (fun c129 => ?_)
          · refine am_iconst hC dX5_round_136 ?_
            refine am_istore8 hC dX5_round_137 rfl ?_
            exact L139 R8 _ _ _ (by omega) (by omega) (by omega) q8 c8
          · refine am_iconst hC dX5_round_132 ?_
            refine am_goto hC 137 dX5_round_133 rfl ?_
            refine am_istore8 hC dX5_round_137 rfl ?_
            exact L139 R8 _ _ _ (by omega) (by omega) (by omega) q8 c8
        · refine am_iconst hC dX5_round_117 ?_
          refine am_goto hC 122 dX5_round_118 rfl ?_
          refine am_istore7 hC dX5_round_122 rfl ?_
          refine am_aload0 hC dX5_round_124 ?_
          refine am_iconst hC dX5_round_125 ?_
          refine am_V1_pI hC 5 dX5_round_126 kX5_65 (m_MisEven (x := 4) _ _ v8.x (by decide) q8) k8 rfl (Nat.le_of_ble_eq_true rfl) (by decide) (by omega) (by omega) ?_
          obtain ⟨b2, hb2⟩ : ∃ b2 : Int, b2 = (if Q % 2 = 0 then 1 else 0) := ⟨_, rfl⟩
          rw [← hb2]
          have hb3 : (b2 = 1 ∧ Q % 2 = 0) ∨ (b2 = 0 ∧ Q % 2 = 1) := by by_cases e : Q % 2 = 0; (· rw [if_pos e] at hb2; exact Or.inl ⟨hb2, e⟩); (· rw [if_neg e] at hb2; exact Or.inr ⟨hb2, by omega⟩)
          clear hb2
          refine am_if_ne hC 136 dX5_round_129 rfl (by omega) (fun c129 => ?_) (fun c129 => ?_)
          · refine am_iconst hC dX5_round_136 ?_
            refine am_istore8 hC dX5_round_137 rfl ?_
            exact L139 R8 _ _ _ (by omega) (by omega) (by omega) q8 c8
          · refine am_iconst hC dX5_round_132 ?_
            refine am_goto hC 137 dX5_round_133 rfl ?_
            refine am_istore8 hC dX5_round_137 rfl ?_
            exact L139 R8 _ _ _ (by omega) (by omega) (by omega) q8 c8
      · refine am_iconst hC dX5_round_88 ?_
        refine am_goto hC 93 dX5_round_89 rfl ?_
        refine am_istore5 hC dX5_round_93 rfl ?_
        refine am_aload0 hC dX5_round_95 ?_
        refine am_iconst hC dX5_round_96 ?_
        refine am_V1_qN hC 5 dX5_round_97 kX5_46 (m_Mtwice (x := 5) _ _ v7.x (by decide) r7 (by omega)) k7 rfl (Nat.le_of_ble_eq_true rfl) (by decide) (by omega) (by omega) (fun h8 r => ?_)
        obtain ⟨R8, e8, r8, f8⟩ := r
        rw [am_up_up] at e8
        subst e8
        have v8 := v3.r (R' := R8)
        have k8 := v8.1
        have c8 := c7.kept f8 (by decide)
        have d8 := d7.kept f8 (by decide)
        have q8 := q7.kept f8 (by decide)
        obtain ⟨⟨fs, s1, s2⟩, -, -⟩ := v8.2.2.2.1
        refine am_aload0 hC dX5_round_100 ?_
        refine am_iconst hC dX5_round_101 ?_
        refine am_iconst hC dX5_round_102 ?_
        refine am_V2_pI hC 5 dX5_round_103 kX5_50 (m_Mcompare (x := 5) (y := 3) _ _ v8.x (by decide) (by decide) r8 d8 (by omega) lD) k8 rfl (Nat.le_of_ble_eq_true rfl) (by decide) (by omega) (by omega) ?_
        rw [← hfa]
        refine am_istore6 hC dX5_round_106 rfl ?_
        refine am_aload0 hC dX5_round_108 ?_
        refine am_getf hC dX5_round_109 fX5_17 k8 rfl ?_
        refine am_iload1 hC dX5_round_112 ?_
        refine am_iald hC dX5_round_113 s1 (by omega) (by omega) ?_
        rw [Int.toNat_natCast, s2 I I1, ← hu']
        refine am_if_ge hC 121 dX5_round_114 rfl (by omega) (fun c114 => ?_) (fun c114 => ?_)
        · refine am_iconst hC dX5_round_121 ?_
          refine am_istore7 hC dX5_round_122 rfl ?_
          refine am_aload0 hC dX5_round_124 ?_
          refine am_iconst hC dX5_round_125 ?_
          refine am_V1_pI hC 5 dX5_round_126 kX5_65 (m_MisEven (x := 4) _ _ v8.x (by decide) q8) k8 rfl (Nat.le_of_ble_eq_true rfl) (by decide) (by omega) (by omega) ?_
          obtain ⟨b2, hb2⟩ : ∃ b2 : Int, b2 = (if Q % 2 = 0 then 1 else 0) := ⟨_, rfl⟩
          rw [← hb2]
          have hb3 : (b2 = 1 ∧ Q % 2 = 0) ∨ (b2 = 0 ∧ Q % 2 = 1) := by by_cases e : Q % 2 = 0; (· rw [if_pos e] at hb2; exact Or.inl ⟨hb2, e⟩); (· rw [if_neg e] at hb2; exact Or.inr ⟨hb2, by omega⟩)
          clear hb2
          refine am_if_ne hC 136 dX5_round_129 rfl (by omega) (fun c129 => ?_) (fun c129 => ?_)
          · refine am_iconst hC dX5_round_136 ?_
            refine am_istore8 hC dX5_round_137 rfl ?_
            exact L139 R8 _ _ _ (by omega) (by omega) (by omega) q8 c8
          · refine am_iconst hC dX5_round_132 ?_
            refine am_goto hC 137 dX5_round_133 rfl ?_
            refine am_istore8 hC dX5_round_137 rfl ?_
            exact L139 R8 _ _ _ (by omega) (by omega) (by omega) q8 c8
        · refine am_iconst hC dX5_round_117 ?_
          refine am_goto hC 122 dX5_round_118 rfl ?_
          refine am_istore7 hC dX5_round_122 rfl ?_
          refine am_aload0 hC dX5_round_124 ?_
          refine am_iconst hC dX5_round_125 ?_
          refine am_V1_pI hC 5 dX5_round_126 kX5_65 (m_MisEven (x := 4) _ _ v8.x (by decide) q8) k8 rfl (Nat.le_of_ble_eq_true rfl) (by decide) (by omega) (by omega) ?_
          obtain ⟨b2, hb2⟩ : ∃ b2 : Int, b2 = (if Q % 2 = 0 then 1 else 0) := ⟨_, rfl⟩
          rw [← hb2]
          have hb3 : (b2 = 1 ∧ Q % 2 = 0) ∨ (b2 = 0 ∧ Q % 2 = 1) := by by_cases e : Q % 2 = 0; (· rw [if_pos e] at hb2; exact Or.inl ⟨hb2, e⟩); (· rw [if_neg e] at hb2; exact Or.inr ⟨hb2, by omega⟩)
          clear hb2
          refine am_if_ne hC 136 dX5_round_129 rfl (by omega) (fun c129 => ?_) (fun c129 => ?_)
          · refine am_iconst hC dX5_round_136 ?_
            refine am_istore8 hC dX5_round_137 rfl ?_
            exact L139 R8 _ _ _ (by omega) (by omega) (by omega) q8 c8
          · refine am_iconst hC dX5_round_132 ?_
            refine am_goto hC 137 dX5_round_133 rfl ?_
            refine am_istore8 hC dX5_round_137 rfl ?_
            exact L139 R8 _ _ _ (by omega) (by omega) (by omega) q8 c8
    refine am_aload0 hC dX5_round_35 ?_
    refine am_getf hC dX5_round_36 fX5_33 k2 rfl ?_
    refine am_if_le hC 44 dX5_round_39 rfl (by omega) (fun c39 => ?_) (fun c39 => ?_)
    · refine am_aload0 hC dX5_round_44 ?_
      refine am_iload1 hC dX5_round_45 ?_
      refine am_iload1 hC dX5_round_46 ?_
      refine am_bipush hC dX5_round_47 rfl ?_
      refine am_V3_qN hC 5 dX5_round_49 kX5_94 (m_Mneed (more := 16) _ _ v2.1 I1 I1 (by decide) (by rw [← hu']; exact oI) (by rw [← hu']; exact oI)) k2 rfl (Nat.le_of_ble_eq_true rfl) (by decide) (by omega) (by omega) (fun h3 r => ?_)
      obtain ⟨wd3, ⟨n1, n2, hw, b1, b2, q1, q2, q3, q4⟩, e3⟩ := r
      rw [← hu'] at q1 q2
      have v3 : eS h3 s 0 wd3 R := by rw [e3]; exact v2.1.o (by omega)
      have o3 : only h h3 K45 := v2.2.tr (by rw [e3]; exact only.o)
      clear e3
      exact rest h3 wd3 n1 R v3 o3 (by omega) q1 q2
    · exact absurd c39 (by decide)
  refine am_aload0 hC dX5_round_0 ?_
  refine am_iload1 hC dX5_round_1 ?_
  refine am_S1_qI hC dX5_round_2 kX5_91 (m_MnoValue _ _ hi) (Nat.le_of_ble_eq_true rfl) (by decide) (by omega) (by omega) (fun v h1 q => ?_)
  obtain ⟨e, q⟩ := q
  rw [e]
  clear e
  have nq : v ≠ 0 → ¬ okV i := fun c => by rcases q with x | x; (· exact absurd x.1 c); (· exact x.2)
  have yq : v = 0 → okV i := fun c => by rcases q with x | x; (· exact x.2); (· omega)
  refine am_if_eq hC 12 dX5_round_5 rfl (by omega) (fun c5 => ?_) (fun c5 => ?_)
  · refine am_iload2 hC dX5_round_12 ?_
    refine am_if_lt hC 27 dX5_round_13 rfl (by omega) (fun c13 => ?_) (fun c13 => ?_)
    · refine am_iconst hC dX5_round_27 ?_
      refine am_goto hC 32 dX5_round_28 rfl ?_
      refine am_putf hC dX5_round_32 pX5_33 (fun q => by cases q) h0 (am_fitI _) (Nat.le_of_ble_eq_true rfl) ?_
      rw [rO_set0]
      first
        | exact bad _ 1 (by omega) rfl (Or.inl ⟨rfl, nq (by omega)⟩)
        | exact bad _ 2 (by omega) rfl (Or.inr ⟨rfl, yq (by omega), fun c => by have := c.1.1; have := c.1.2; have := c.2; omega⟩)
        | exact good _ rfl (yq (by omega)) ⟨⟨by omega, by omega⟩, by omega⟩
    · refine am_iload2 hC dX5_round_16 ?_
      refine am_iconst hC dX5_round_17 ?_
      refine am_icmp_gt hC 27 dX5_round_18 rfl (by omega) (by omega) (fun c18 => ?_) (fun c18 => ?_)
      · refine am_iconst hC dX5_round_27 ?_
        refine am_goto hC 32 dX5_round_28 rfl ?_
        refine am_putf hC dX5_round_32 pX5_33 (fun q => by cases q) h0 (am_fitI _) (Nat.le_of_ble_eq_true rfl) ?_
        rw [rO_set0]
        first
          | exact bad _ 1 (by omega) rfl (Or.inl ⟨rfl, nq (by omega)⟩)
          | exact bad _ 2 (by omega) rfl (Or.inr ⟨rfl, yq (by omega), fun c => by have := c.1.1; have := c.1.2; have := c.2; omega⟩)
          | exact good _ rfl (yq (by omega)) ⟨⟨by omega, by omega⟩, by omega⟩
      · refine am_lload3 hC dX5_round_21 ?_
        refine am_lconst1 hC dX5_round_22 ?_
        refine am_lif_ge hC 31 dX5_round_23 dX5_round_24 rfl (by omega) (by omega) (fun c24 => ?_) (fun c24 => ?_)
        · refine am_iconst hC dX5_round_31 ?_
          refine am_putf hC dX5_round_32 pX5_33 (fun q => by cases q) h0 (am_fitI _) (Nat.le_of_ble_eq_true rfl) ?_
          rw [rO_set0]
          first
            | exact bad _ 1 (by omega) rfl (Or.inl ⟨rfl, nq (by omega)⟩)
            | exact bad _ 2 (by omega) rfl (Or.inr ⟨rfl, yq (by omega), fun c => by have := c.1.1; have := c.1.2; have := c.2; omega⟩)
            | exact good _ rfl (yq (by omega)) ⟨⟨by omega, by omega⟩, by omega⟩
        · refine am_iconst hC dX5_round_27 ?_
          refine am_goto hC 32 dX5_round_28 rfl ?_
          refine am_putf hC dX5_round_32 pX5_33 (fun q => by cases q) h0 (am_fitI _) (Nat.le_of_ble_eq_true rfl) ?_
          rw [rO_set0]
          first
            | exact bad _ 1 (by omega) rfl (Or.inl ⟨rfl, nq (by omega)⟩)
            | exact bad _ 2 (by omega) rfl (Or.inr ⟨rfl, yq (by omega), fun c => by have := c.1.1; have := c.1.2; have := c.2; omega⟩)
            | exact good _ rfl (yq (by omega)) ⟨⟨by omega, by omega⟩, by omega⟩
  · refine am_iconst hC dX5_round_8 ?_
    refine am_goto hC 32 dX5_round_9 rfl ?_
    refine am_putf hC dX5_round_32 pX5_33 (fun q => by cases q) h0 (am_fitI _) (Nat.le_of_ble_eq_true rfl) ?_
    rw [rO_set0]
    first
      | exact bad _ 1 (by omega) rfl (Or.inl ⟨rfl, nq (by omega)⟩)
      | exact bad _ 2 (by omega) rfl (Or.inr ⟨rfl, yq (by omega), fun c => by have := c.1.1; have := c.1.2; have := c.2; omega⟩)
      | exact good _ rfl (yq (by omega)) ⟨⟨by omega, by omega⟩, by omega⟩

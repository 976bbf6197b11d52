theorem sh_sh (a i j : Nat) : sh (sh a i) j = sh a (i + j) := by
  unfold sh; rw [Nat.div_div_eq_div_mul, ← Nat.pow_add]
theorem dg_sh (a i j : Nat) : dg (sh a i) j = dg a (i + j) := by unfold dg; rw [sh_sh]
theorem sh_split (a m : Nat) : a = sh a m * 2147483648 ^ m + a % 2147483648 ^ m := by
  unfold sh; rw [Nat.mul_comm]; exact (Nat.div_add_mod _ _).symm
theorem sh_glue (x : Nat) {lo a : Nat} (h : lo < 2147483648 ^ a) (j : Nat) : sh (x * 2147483648 ^ a + lo) (a + j) = sh x j := by
  rw [← sh_sh]; congr 1
  unfold sh
  rw [Nat.add_comm, Nat.add_mul_div_right _ _ (pB a), Nat.div_eq_of_lt h, Nat.zero_add]
theorem dg_mod {a m j : Nat} (h : j < m) : dg (a % 2147483648 ^ m) j = dg a j := by
  have e := izd_add ((a % 2147483648 ^ m : Nat) : Int) (sh a m : Int) h
  have e2 : ((a % 2147483648 ^ m : Nat) : Int) + (sh a m : Int) * 2147483648 ^ m = (a : Int) := by
    rw [← pBc]
    have := sh_split a m
    exact_mod_cast (by omega : a % 2147483648 ^ m + sh a m * 2147483648 ^ m = a)
  rw [e2] at e
  have h1 := dg_i a j
  have h2 := dg_i (a % 2147483648 ^ m) j
  omega
theorem dg_glue (x : Nat) {lo a j : Nat} (h : lo < 2147483648 ^ a) : dg (x * 2147483648 ^ a + lo) j = if j < a then dg lo j else dg x (j - a) := by
  split
  · rename_i q
    rw [← dg_mod q, Nat.mul_add_mod_self_right, Nat.mod_eq_of_lt h]
  · rename_i q
    unfold dg
    congr 1
    rw [show j = a + (j - a) by omega, sh_glue x h, show a + (j - a) - a = j - a by omega]
theorem m_takeOut (l : Launch) (g : am_G) {h : am_H} {dv cd c N D R at0 : Nat} {q9 : Value} (hd0 : h.2 dv = some (eO 0 [q9, .ref (dv + 3), .ref (dv + 5)])) (wd : wN h (dv + 5) cd D) (hs : 2 ≤ szn D) (htop : 1073741824 ≤ dg D (szn D - 1)) (wr : wR h (dv + 3) c N R) (hat : at0 + szn D ≤ N) (hcap : at0 + szn D < c) (hlt : sh R at0 < D * 2147483648) :
    am_Met l g yX0_takeOut (am_W1 yX0_takeOut cX0_takeOut 12 (some .long)) 3 0 0 [.ref dv, vI (at0 : Int)] h (qL fun v h1 => v = ((sh R at0 / D : Nat) : Int) ∧ wR h1 (dv + 3) c N (sh R at0 % D * 2147483648 ^ at0 + R % 2147483648 ^ at0) ∧ only h h1 [dv + 3 + 1]) := by
  have h5 := wd.o
  have hnd := wd.n
  have hnr := wr.n
  have wr0 := wr
  obtain ⟨r1, r2, hcc, f, b, r5⟩ := wr
  obtain ⟨T, hT0⟩ : ∃ T, T = sh R at0 := ⟨_, rfl⟩
  obtain ⟨n, hn⟩ : ∃ n, n = szn D := ⟨_, rfl⟩
  rw [← hT0] at hlt ⊢
  have hD0 : 0 < D := Nat.pos_of_ne_zero fun q => by rw [q, szn_0] at hs; omega
  have hDn : D < 2147483648 ^ n := by rw [hn]; exact lt_pow_szn D
  have hTn : T < 2147483648 ^ (n + 1) := by rw [Nat.pow_succ]; exact Nat.lt_of_lt_of_le hlt (Nat.mul_le_mul_right _ (Nat.le_of_lt hDn))
  have hdT : ∀ i, dg T i = dg R (at0 + i) := fun i => by rw [hT0, dg_sh]
  obtain ⟨vh, hvh⟩ : ∃ vh, vh = dg D (n - 1) := ⟨_, rfl⟩
  obtain ⟨v2, hv2⟩ : ∃ v2, v2 = dg D (n - 2) := ⟨_, rfl⟩
  obtain ⟨u2, hu2⟩ : ∃ u2, u2 = dg T (n - 2) := ⟨_, rfl⟩
  obtain ⟨two, htwo⟩ : ∃ two, two = dg T n * 2147483648 + dg T (n - 1) := ⟨_, rfl⟩
  obtain ⟨P, hP⟩ : ∃ P, P = 2147483648 ^ (n - 2) := ⟨_, rfl⟩
  have hDe : D = (vh * 2147483648 + v2) * P + D % P := by
    have e := sh_split D (n - 2)
    have e1 := sh_dg D (n - 2)
    have e2 := sh_dg D (n - 1)
    rw [show n - 2 + 1 = n - 1 by omega] at e1
    rw [show n - 1 + 1 = n by omega, sh_out (Nat.le_of_eq hn.symm)] at e2
    rw [hP, show vh * 2147483648 + v2 = sh D (n - 2) by omega]
    exact e
  have hTe : T = (two * 2147483648 + u2) * P + T % P := by
    have e := sh_split T (n - 2)
    have e1 := sh_dg T (n - 2)
    have e2 := sh_dg T (n - 1)
    have e3 := sh_dg T n
    rw [show n - 2 + 1 = n - 1 by omega] at e1
    rw [show n - 1 + 1 = n by omega] at e2
    rw [show sh T (n + 1) = 0 from Nat.div_eq_of_lt hTn] at e3
    rw [hP, show two * 2147483648 + u2 = sh T (n - 2) by omega]
    exact e
  have hPp : 0 < P := by rw [hP]; exact pB _
  have hTl : T % P < P := Nat.mod_lt _ hPp
  have hDl : D % P < P := Nat.mod_lt _ hPp
  have gv2 : v2 < 2147483648 := by rw [hv2]; exact dg_lt _ _
  have gu2 : u2 < 2147483648 := by rw [hu2]; exact dg_lt _ _
  have gvh : vh < 2147483648 := by rw [hvh]; exact dg_lt _ _
  rw [← hn] at hs htop hat hcap
  rw [← hvh] at htop
  obtain ⟨q, hq⟩ : ∃ q, q = T / D := ⟨_, rfl⟩
  have q1 : q * D ≤ T := by rw [hq]; exact Nat.div_mul_le_self _ _
  have q2 : T < (q + 1) * D := by rw [hq, Nat.mul_comm]; exact Nat.lt_mul_div_succ _ hD0
  have q3 : q < 2147483648 := by rw [hq, Nat.div_lt_iff_lt_mul hD0, Nat.mul_comm]; exact hlt
  have qr : T - q * D = T % D := by
    have := Nat.div_add_mod T D
    rw [hq, Nat.mul_comm]
    omega
  have rD : T % D < D := Nat.mod_lt _ hD0
  have gt1 := dg_lt T n
  have gt2 := dg_lt T (n - 1)
  rw [← hq]
  refine am_mk [some (.ref dv), some (vI (at0 : Int)), none, none, none, none, none, none, none, none, none, none] 10 rfl rfl (by decide +kernel) (fun y hl hg hC hT _ => ?_)
  have oo : ∀ f : Nat → Int, only h (am_up h (dv + 3 + 1) (eL c f)) [dv + 3 + 1] := fun f => ⟨rfl, fun r hr => am_up_ne _ _ (fun e => hr (by simp [e]))⟩
  have wdo : ∀ f : Nat → Int, wN (am_up h (dv + 3 + 1) (eL c f)) (dv + 5) cd D := fun f => wd.kept (oo f) (by simp) (by simp)
  have hdo : ∀ f : Nat → Int, (am_up h (dv + 3 + 1) (eL c f)).2 dv = some (eO 0 [q9, .ref (dv + 3), .ref (dv + 5)]) := fun f => by rw [am_up_ne _ _ (by omega)]; exact hd0
  have done : ∀ (f' : Nat → Int) (y9 y11 : Option Value), (∀ i, i < n → f' (at0 + i) = (dg (T % D) i : Int)) → (∀ j, (j < at0 ∨ at0 + n ≤ j) → f' j = f j) → am_W y 141 0 0 (am_up h (dv + 3 + 1) (eL c f')) [some (.ref dv), some (vI (at0 : Int)), some (vI (n : Int)), some (vL (vh : Int)), none, some (vL (two : Int)), none, some (vL (q : Int)), none, y9, none, y11] [] := by
    intro f' y9 y11 h1 h2
    have h0 := hdo f'
    have low : R % 2147483648 ^ at0 < 2147483648 ^ at0 := Nat.mod_lt _ (pB _)
    have szr : szn (T % D) ≤ n := szn_le.mpr (Nat.lt_trans rD hDn)
    refine am_aload0 hC dX0_takeOut_141 ?_
    refine am_getf hC dX0_takeOut_142 fX0_18 h0 rfl ?_
    refine am_iload1 hC dX0_takeOut_145 ?_
    refine am_iload2 hC dX0_takeOut_146 ?_
    refine am_iadd hC dX0_takeOut_147 ?_
    refine am_lconst0 hC dX0_takeOut_148 ?_
    rw [show (at0 : Int) + (n : Int) = ((at0 + n : Nat) : Int) by omega]
    refine r_setLimb hC dX0_takeOut_149 kX0_66 (wC.up b) hcc (by omega) (Nat.le_of_ble_eq_true rfl) (by decide) (Nat.le_refl _) (Nat.le_refl _) ?_
    rw [am_up_up, Int.toNat_natCast]
    refine am_lload7 hC dX0_takeOut_152 ?_
    refine am_lret hC hT dX0_takeOut_154 (Nat.le_refl _) (Nat.le_refl _) ⟨_, rfl, rfl, ⟨?_, r2, hcc, _, wC.up b, fun j hj => ?_⟩, oo _⟩
    · refine Nat.lt_of_le_of_lt ?_ r1
      have e := sh_split R at0
      rw [← hT0] at e
      have : T % D * 2147483648 ^ at0 ≤ T * 2147483648 ^ at0 := Nat.mul_le_mul_right _ (Nat.mod_le _ _)
      omega
    · rw [dg_glue _ low]
      by_cases e : j < at0
      · rw [if_pos e, dg_mod e, am_fu_lt (by omega), h2 j (Or.inl e)]; exact r5 j hj
      · rw [if_neg e]
        by_cases e2 : j < at0 + n
        · have := h1 (j - at0) (by omega)
          rw [show at0 + (j - at0) = j by omega] at this
          rw [am_fu_lt (by omega)]; exact this
        · rw [dg_out (Nat.le_trans szr (by omega))]
          by_cases e3 : j = at0 + n
          · subst e3; exact am_fu_at
          · rw [am_fu_lt e3, h2 j (Or.inr (by omega)), r5 j hj, show j = at0 + (j - at0) by omega, ← hdT, dg_out (szn_le.mpr (Nat.lt_of_lt_of_le hTn (Nat.pow_le_pow_right (by decide) (by omega))))]
  have fix : ∀ (qh : Nat) (y9 y11 : Option Value), q ≤ qh → qh ≤ q + 1 → am_W y 115 0 0 h [some (.ref dv), some (vI (at0 : Int)), some (vI (n : Int)), some (vL (vh : Int)), none, some (vL (two : Int)), none, some (vL (qh : Int)), none, y9, none, y11] [] := by
    intro qh y9 y11 a1 a2
    have ht9 : (if at0 + szn D < N then f (at0 + szn D) else 0) = (dg T (szn D) : Int) := by
      rw [hdT]
      split
      · exact r5 _ (by omega)
      · rw [dg_out (Nat.le_trans (szn_le.mpr r1) (by omega))]; rfl
    have ht9n : (if at0 + n < N then f (at0 + n) else 0) = (dg T n : Int) := by rw [hn]; exact ht9
    have hcall := m_changeRest (am_l y) (am_g y) (k := -(qh : Int)) hd0 wd b hcc r2 (by omega) (fun i hi => by rw [r5 _ (by omega), hdT]) ht9 (by rw [← hn]; exact hTn) (by omega)
    rw [← hn] at hcall
    rcases (show qh = q ∨ qh = q + 1 by omega) with e | e
    · have ev : (T : Int) + -(qh : Int) * (D : Int) = ((T % D : Nat) : Int) := by
        rw [e, ← qr, Int.natCast_sub q1]; push_cast; rw [Int.neg_mul]; omega
      rw [ev] at hcall
      have z0 : ((T % D : Nat) : Int) / 2147483648 ^ n = 0 := by rw [← pBc]; exact_mod_cast Nat.div_eq_of_lt (Nat.lt_trans rD hDn)
      rw [z0] at hcall
      subst e
      refine am_aload0 hC dX0_takeOut_115 ?_
      refine am_iload1 hC dX0_takeOut_116 ?_
      refine am_lload7 hC dX0_takeOut_117 ?_
      refine am_lneg hC dX0_takeOut_119 ?_
      refine am_V2_qL hC 0 dX0_takeOut_120 kX0_79 hcall hd0 rfl (Nat.le_of_ble_eq_true rfl) (by decide) (Nat.le_refl _) (Nat.le_refl _) (fun v h1 q => ?_)
      obtain ⟨rfl, f', rfl, g1, g2⟩ := q
      refine am_lconst0 hC dX0_takeOut_123 ?_
      refine am_lif_ge hC 141 dX0_takeOut_124 dX0_takeOut_125 rfl (by omega) (by omega) (fun c125 => ?_) (fun c125 => ?_)
      · exact done f' _ _ (fun i hi => by rw [g1 i hi, ← dg_i]) g2
      · exact absurd c125 (by omega)
    · have ev : (T : Int) + -(qh : Int) * (D : Int) = ((T % D : Nat) : Int) - D := by
        rw [e, ← qr, Int.natCast_sub q1]; push_cast; rw [Int.neg_mul, Int.add_mul]; omega
      rw [ev] at hcall
      obtain ⟨z, hz⟩ : ∃ z, z = ((T % D : Nat) : Int) - D := ⟨_, rfl⟩
      have zm : z % 2147483648 ^ n = z + 2147483648 ^ n := by
        rw [← Int.add_emod_right, Int.emod_eq_of_lt (by rw [← pBc]; omega) (by omega)]
      have zlt : z / 2147483648 ^ n < 0 := Int.ediv_neg_of_neg_of_pos (by omega) (pBi n)
      rw [← hz] at hcall
      obtain ⟨w, hw⟩ : ∃ w : Nat, (w : Int) = z + 2147483648 ^ n := ⟨(z + 2147483648 ^ n).toNat, Int.toNat_of_nonneg (by rw [← pBc]; omega)⟩
      have wlt : w < 2147483648 ^ n := by have := pBc n; omega
      refine am_aload0 hC dX0_takeOut_115 ?_
      refine am_iload1 hC dX0_takeOut_116 ?_
      refine am_lload7 hC dX0_takeOut_117 ?_
      refine am_lneg hC dX0_takeOut_119 ?_
      refine am_V2_qL hC 0 dX0_takeOut_120 kX0_79 hcall hd0 rfl (Nat.le_of_ble_eq_true rfl) (by decide) (Nat.le_refl _) (Nat.le_refl _) (fun v h1 q => ?_)
      obtain ⟨rfl, f', rfl, g1, g2⟩ := q
      have h0 := hdo f'
      have rng : -9223372036854775808 ≤ z / 2147483648 ^ n := by
        have : -1 ≤ z / 2147483648 ^ n := by
          rw [Int.le_ediv_iff_mul_le (pBi n), ← pBc]; omega
        omega
      refine am_lconst0 hC dX0_takeOut_123 ?_
      refine am_lif_ge hC 141 dX0_takeOut_124 dX0_takeOut_125 rfl (by omega) (by omega) (fun c125 => ?_) (fun c125 => ?_)
      · exact absurd c125 (by omega)
      · refine am_lload7 hC dX0_takeOut_128 ?_
        refine am_lconst1 hC dX0_takeOut_130 ?_
        refine am_lsub hC dX0_takeOut_131 ?_
        refine am_lstore7 hC dX0_takeOut_132 rfl ?_
        refine am_aload0 hC dX0_takeOut_134 ?_
        refine am_iload1 hC dX0_takeOut_135 ?_
        refine am_lconst1 hC dX0_takeOut_136 ?_
        rw [show (qh : Int) - 1 = (q : Int) by omega]
        have hcall2 := m_changeRest (am_l y) (am_g y) (N := N) (at0 := at0) (k := 1) (T := dg T n * 2147483648 ^ n + w) h0 (wdo f') (wC.up b) hcc r2 (by omega) (fun i hi => by rw [g1 i (by omega), dg_glue _ wlt, if_pos (by omega), dg_i, hw]; have := izd_add z 1 (n := n) (i := i) (by omega); rw [Int.one_mul] at this; exact this.symm) (by rw [← hn, g2 _ (Or.inr (Nat.le_refl _)), ht9n, dg_glue _ wlt, if_neg (by omega), Nat.sub_self]; unfold dg; rw [sh_0, Nat.mod_mod]) (by rw [← hn, Nat.pow_succ, Nat.mul_comm (2147483648 ^ n)]; exact Nat.lt_of_lt_of_le (show dg T n * 2147483648 ^ n + w < (dg T n + 1) * 2147483648 ^ n by rw [Nat.add_mul]; omega) (Nat.mul_le_mul_right _ gt1)) (by omega)
        rw [← hn] at hcall2
        refine am_V2_qL hC 0 dX0_takeOut_137 kX0_79 hcall2 h0 rfl (Nat.le_of_ble_eq_true rfl) (by decide) (Nat.le_refl _) (Nat.le_refl _) (fun v h1 q => ?_)
        obtain ⟨rfl, f'', rfl, k1, k2⟩ := q
        rw [am_up_up]
        refine am_pop2 hC dX0_takeOut_140 rfl ?_
        refine done f'' _ _ (fun i hi => ?_) (fun j hj => by rw [k2 j hj, g2 j hj])
        rw [k1 i hi, dg_i]
        have := izd_add ((T % D : Nat) : Int) (dg T n + 1 : Int) (n := n) (i := i) hi
        rw [← this]
        congr 1
        rw [Int.natCast_add, Int.natCast_mul, pBc, hw, hz, Int.add_mul]
        omega
  have loop : ∀ (m i qh rh : Nat), i + m = 2 → two = qh * vh + rh → q ≤ qh → qh + i ≤ 2147483649 → i * vh ≤ rh → rh ≤ (i + 1) * vh → am_W y 70 0 0 h [some (.ref dv), some (vI (at0 : Int)), some (vI (n : Int)), some (vL (vh : Int)), none, some (vL (two : Int)), none, some (vL (qh : Int)), none, some (vL (rh : Int)), none, some (vI (i : Int))] [] := by
    intro m
    induction m with
    | zero =>
      intro i qh rh hi e1 e2 e3 e4 e5
      have hi2 : i = 2 := by omega
      subst hi2
      refine am_iload11 hC dX0_takeOut_70 ?_
      refine am_iconst hC dX0_takeOut_72 ?_
      refine am_icmp_ge hC 115 dX0_takeOut_73 rfl (by omega) (by omega) (fun c73 => ?_) (fun c73 => ?_)
      · refine fix qh _ _ e2 (kn_high hTe hDe hDl (by omega) e1 ?_ (by omega) q2)
        have : qh * v2 ≤ 2147483648 * 2147483647 := Nat.mul_le_mul (by omega) (by omega)
        omega
      · exact absurd c73 (by omega)
    | succ m ih =>
      intro i qh rh hi e1 e2 e3 e4 e5
      have hi2 : i = 0 ∨ i = 1 := by omega
      have lu : LV h (dv + 3) ((at0 + (n - 2) : Nat) : Int) (u2 : Int) := by
        rw [hu2, hdT]; exact wr0.lv _
      rw [hn] at lu
      have erh : rh ≤ 2 * vh := by rcases hi2 with e | e <;> subst e <;> omega
      refine am_iload11 hC dX0_takeOut_70 ?_
      refine am_iconst hC dX0_takeOut_72 ?_
      refine am_icmp_ge hC 115 dX0_takeOut_73 rfl (by omega) (by omega) (fun c73 => ?_) (fun c73 => ?_)
      · exact absurd c73 (by omega)
      · refine am_lload9 hC dX0_takeOut_76 ?_
        refine am_ldc2 hC (2147483647) dX0_takeOut_78 cX0_73 rfl ?_
        refine am_lif_gt hC 115 dX0_takeOut_81 dX0_takeOut_82 rfl (by omega) (by omega) (fun c82 => ?_) (fun c82 => ?_)
        · refine fix qh _ _ e2 (kn_high hTe hDe hDl (by omega) e1 ?_ ?_ q2)
          · have hv : qh * v2 ≤ 2147483649 * v2 := Nat.mul_le_mul_right _ (by omega)
            rcases hi2 with e | e
            · subst e; omega
            · have : qh * v2 ≤ 2147483648 * 2147483647 := Nat.mul_le_mul (by omega) (by omega)
              omega
          · rcases hi2 with e | e
            · subst e; omega
            · omega
        · refine am_aload0 hC dX0_takeOut_85 ?_
          refine am_lload7 hC dX0_takeOut_86 ?_
          refine am_lload9 hC dX0_takeOut_88 ?_
          refine am_iload1 hC dX0_takeOut_90 ?_
          refine am_V3_pI hC 0 dX0_takeOut_91 kX0_75 (m_isTooOften _ _ (v2 := v2) hd0 wd (by omega) (by omega) (by rw [hv2, hn]) lu gu2 (by omega) (by omega)) hd0 rfl (Nat.le_of_ble_eq_true rfl) (by decide) (Nat.le_refl _) (Nat.le_refl _) ?_
          by_cases ct : ¬ (2147483647 < qh ∨ rh * 2147483648 + u2 < qh * v2)
          · rw [if_neg ct]
            refine am_if_eq hC 115 dX0_takeOut_94 rfl (by omega) (fun c => ?_) (fun c => absurd rfl c)
            exact fix qh _ _ e2 (kn_high hTe hDe hDl (by omega) e1 (by omega) (by omega) q2)
          have ct := Classical.not_not.mp ct
          rw [if_pos ct]
          refine am_if_eq hC 115 dX0_takeOut_94 rfl (by omega) (fun c => absurd c (by omega)) (fun c => ?_)
          have lt : q < qh := by
            rcases ct with ct | ct
            · omega
            · exact kn_too hTe hDe hTl e1 ct q1
          refine am_lload7 hC dX0_takeOut_97 ?_
          refine am_lconst1 hC dX0_takeOut_99 ?_
          refine am_lsub hC dX0_takeOut_100 ?_
          refine am_lstore7 hC dX0_takeOut_101 rfl ?_
          refine am_lload9 hC dX0_takeOut_103 ?_
          refine am_lload3 hC dX0_takeOut_105 ?_
          refine am_ladd hC dX0_takeOut_106 ?_
          refine am_lstore9 hC dX0_takeOut_107 rfl ?_
          refine am_iinc11 hC dX0_takeOut_109 rfl ?_
          refine am_goto hC 70 dX0_takeOut_112 rfl ?_
          rw [show (qh : Int) - 1 = ((qh - 1 : Nat) : Int) by omega, show (rh : Int) + (vh : Int) = ((rh + vh : Nat) : Int) by omega, show (i : Int) + 1 = ((i + 1 : Nat) : Int) by omega]
          refine ih (i + 1) (qh - 1) (rh + vh) (by omega) ?_ (by omega) (by omega) ?_ ?_
          · rw [e1, Nat.sub_mul, Nat.one_mul]
            have : 1 * vh ≤ qh * vh := Nat.mul_le_mul_right _ (by omega)
            omega
          · rw [Nat.add_mul, Nat.one_mul]; omega
          · rw [Nat.add_mul, Nat.one_mul]; omega
  have lv1 := wr0.lv (at0 + n)
  have lv2 := wr0.lv (at0 + (n - 1))
  rw [← hdT] at lv1 lv2
  have lvh := wd.lv (n - 1)
  rw [← hvh] at lvh
  have h5' := h5
  rw [← hn] at h5'
  have d1 : (two : Int).tdiv (vh : Int) = ((two / vh : Nat) : Int) := by rw [Int.tdiv_eq_ediv_of_nonneg (by omega)]; exact (Int.natCast_ediv _ _).symm
  have d2 : (two : Int).tmod (vh : Int) = ((two % vh : Nat) : Int) := by rw [Int.tmod_eq_emod_of_nonneg (by omega)]; exact (Int.natCast_emod _ _).symm
  refine am_aload0 hC dX0_takeOut_0 ?_
  refine am_getf hC dX0_takeOut_1 fX0_21 hd0 rfl ?_
  refine am_getf hC dX0_takeOut_4 fX0_24 h5' rfl ?_
  refine am_istore2 hC dX0_takeOut_7 rfl ?_
  refine am_aload0 hC dX0_takeOut_8 ?_
  refine am_getf hC dX0_takeOut_9 fX0_21 hd0 rfl ?_
  refine am_iload2 hC dX0_takeOut_12 ?_
  refine am_iconst hC dX0_takeOut_13 ?_
  refine am_isub hC dX0_takeOut_14 ?_
  rw [show (n : Int) - 1 = ((n - 1 : Nat) : Int) by omega]
  refine r_limb hC dX0_takeOut_15 kX0_32 lvh (by omega) (Nat.le_of_ble_eq_true rfl) (by decide) (Nat.le_refl _) (Nat.le_refl _) ?_
  refine am_lstore3 hC dX0_takeOut_18 rfl ?_
  refine am_lload3 hC dX0_takeOut_19 ?_
  refine am_lconst0 hC dX0_takeOut_20 ?_
  refine am_lif_gt hC 27 dX0_takeOut_21 dX0_takeOut_22 rfl (by omega) (by omega) (fun c22 => ?_) (fun c22 => ?_)
  · refine am_aload0 hC dX0_takeOut_27 ?_
    refine am_getf hC dX0_takeOut_28 fX0_18 hd0 rfl ?_
    refine am_iload1 hC dX0_takeOut_31 ?_
    refine am_iload2 hC dX0_takeOut_32 ?_
    refine am_iadd hC dX0_takeOut_33 ?_
    rw [show (at0 : Int) + (n : Int) = ((at0 + n : Nat) : Int) by omega]
    refine r_limb hC dX0_takeOut_34 kX0_32 lv1 (by omega) (Nat.le_of_ble_eq_true rfl) (by decide) (Nat.le_refl _) (Nat.le_refl _) ?_
    refine am_bipush hC dX0_takeOut_37 rfl ?_
    refine am_lshl hC 31 dX0_takeOut_39 rfl (by decide) ?_
    refine am_aload0 hC dX0_takeOut_40 ?_
    refine am_getf hC dX0_takeOut_41 fX0_18 hd0 rfl ?_
    refine am_iload1 hC dX0_takeOut_44 ?_
    refine am_iload2 hC dX0_takeOut_45 ?_
    refine am_iadd hC dX0_takeOut_46 ?_
    refine am_iconst hC dX0_takeOut_47 ?_
    refine am_isub hC dX0_takeOut_48 ?_
    rw [show (at0 : Int) + (n : Int) - 1 = ((at0 + (n - 1) : Nat) : Int) by omega]
    refine r_limb hC dX0_takeOut_49 kX0_32 lv2 (by omega) (Nat.le_of_ble_eq_true rfl) (by decide) (Nat.le_refl _) (Nat.le_refl _) ?_
    refine am_lor2 hC 31 dX0_takeOut_52 (by decide) (by omega) (by omega) ?_
    rw [show (dg T n : Int) * 2 ^ 31 + (dg T (n - 1) : Int) = (two : Int) by omega]
    refine am_lstore5 hC dX0_takeOut_53 rfl ?_
    refine am_lload5 hC dX0_takeOut_55 ?_
    refine am_lload3 hC dX0_takeOut_57 ?_
    refine am_ldiv hC dX0_takeOut_58 (by omega) (by omega) (by omega) ?_
    rw [d1]
    refine am_lstore7 hC dX0_takeOut_59 rfl ?_
    refine am_lload5 hC dX0_takeOut_61 ?_
    refine am_lload3 hC dX0_takeOut_63 ?_
    refine am_lrem hC dX0_takeOut_64 (by omega) (by omega) (by omega) ?_
    rw [d2]
    refine am_lstore9 hC dX0_takeOut_65 rfl ?_
    refine am_iconst hC dX0_takeOut_67 ?_
    refine am_istore11 hC dX0_takeOut_68 rfl ?_
    have hml : two % vh < vh := Nat.mod_lt _ (by omega)
    refine loop 2 0 (two / vh) (two % vh) rfl ?_ ?_ ?_ (by omega) (by omega)
    · have := Nat.div_add_mod two vh
      rw [Nat.mul_comm] at this
      exact this.symm
    · rw [Nat.le_div_iff_mul_le (by omega)]
      exact kn_low hTe hDe gu2 hTl q1
    · exact kn_first hTe hDe gv2 hDl hlt (by omega)
  · exact absurd c22 (by omega)

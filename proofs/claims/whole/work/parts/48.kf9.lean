/-! weight, clearWeights, end, unitLength, turn -/
theorem uLw : Cond.fieldLink RX4 207 RX4 "UNIT_LENGTHS" "[J" ∈ am_ws := am_in (List.mem_of_getElem? (i := 571) (by decide +kernel)) rfl
theorem am_gtlen {x : am_X} {cc : ByteArray} {n mc ms : Nat} (hC : am_C x cc RX4 n mc ms) {pc k z : Nat} {h : am_H} {ls : List (Option Value)} {st : List Value} (d : decode cc pc = .ok (.getstatic 207, 3)) (d2 : decode cc (pc + 3) = .ok (.arraylength, 1)) (kk : am_W x (pc + 3 + 1) k z h ls (vI 6 :: st)) : am_W x pc k z h ls st := by
  obtain ⟨p, l, e, R, s, m, args, below, meth, c, Q, g, nL⟩ := x
  obtain ⟨hx, hb, hml, hown, hts, hI, hlk, hR⟩ := hC
  intro H locs la hH hS hL
  obtain ⟨t, hZ, hT⟩ := hI.2.2.2.1
  refine va_gets hx hb hZ hS hown (hts _ uLw) (fun _ q => q) d ?_
  exact va_tlen hx hb hT hS (v := Int32.ofInt 6) rfl d2 (kk H locs la hH hS hL)
theorem am_gtat {x : am_X} {cc : ByteArray} {n mc ms : Nat} (hC : am_C x cc RX4 n mc ms) {pc k z : Nat} {h : am_H} {tl : List (Option Value)} {st : List Value} {j : Int} (d : decode cc pc = .ok (.getstatic 207, 3)) (d2 : decode cc (pc + 3) = .ok (.iload_n 0, 1)) (d3 : decode cc (pc + 3 + 1) = .ok (.laload, 1)) (hj : 0 ≤ j ∧ j < 6) (kk : am_W x (pc + 3 + 1 + 1) k z h (some (vI j) :: tl) (vL (am_tab j.toNat) :: st)) : am_W x pc k z h (some (vI j) :: tl) st := by
  obtain ⟨p, l, e, R, s, m, args, below, meth, c, Q, g, nL⟩ := x
  obtain ⟨hx, hb, hml, hown, hts, hI, hlk, hR⟩ := hC
  intro H locs la hH hS hL
  obtain ⟨t, hZ, hT⟩ := hI.2.2.2.1
  refine va_gets hx hb hZ hS hown (hts _ uLw) (fun _ q => q) d ?_
  refine lv_iload_n hx hb d2 rfl (hL.2.2 0 _ rfl) ?_
  refine va_tl hx hb hT hS (am_in32 (N := 6) hj (by decide)) (v := .long (Int64.ofInt (am_tab j.toNat))) (by rw [am_cl32 (by omega)]) d3 ?_
  exact kk H locs la hH hS hL
def okU (k : Int) : Prop := 0 ≤ k ∧ k < 6
theorem am_tab_r (k : Nat) : 1 ≤ am_tab k ∧ am_tab k ≤ 300000 := by
  unfold am_tab
  split
  · decide
  · split
    · decide
    · split
      · decide
      · split
        · decide
        · split <;> decide
theorem m_unitLength (l : Launch) (g : am_G) {h : am_H} {s : aS} {k : Int} (hst : l.stackTraces = false) (w : kS h s) (hk : IR k) :
    am_MetX l g yX4_unitLength (am_W1 yX4_unitLength cX4_unitLength 1 (some .long)) 7 1 6 [vI k] h (qL fun v h1 => okU k ∧ v = am_tab k.toNat ∧ h1 = h) (xK h s (fun E => E = am_AIO ∧ ¬ okU k)) := by
  refine am_mkX [some (vI k)] 0 hst rfl rfl (by decide +kernel) (fun x hl hg hC hT hTX => ?_)
  refine am_iload0 hC dX4_unitLength_0 ?_
  refine am_if_lt hC 12 dX4_unitLength_1 rfl (by omega) (fun c1 => ?_) (fun c1 => ?_)
  · exact am_throw hC hTX tX4_139_210_143 dX4_unitLength_12 dX4_unitLength_15 dX4_unitLength_16 dX4_unitLength_18 dX4_unitLength_21 (by decide) (by decide) (by omega) (by omega) (fun n1 hn => ⟨⟨rfl, by unfold okU; omega⟩, w.gr hn, gx_gr h hn _⟩)
  · refine am_iload0 hC dX4_unitLength_4 ?_
    refine am_gtlen hC dX4_unitLength_5 dX4_unitLength_8 ?_
    skip
    refine am_icmp_lt hC 22 dX4_unitLength_9 rfl (by omega) (by omega) (fun c9 => ?_) (fun c9 => ?_)
    · refine am_gtat hC dX4_unitLength_22 dX4_unitLength_25 dX4_unitLength_26 (by omega) ?_
      exact am_lret hC hT dX4_unitLength_27 (by omega) (by omega) ⟨_, rfl, ⟨by omega, by omega⟩, rfl, rfl⟩
    · exact am_throw hC hTX tX4_139_210_143 dX4_unitLength_12 dX4_unitLength_15 dX4_unitLength_16 dX4_unitLength_18 dX4_unitLength_21 (by decide) (by decide) (by omega) (by omega) (fun n1 hn => ⟨⟨rfl, by unfold okU; omega⟩, w.gr hn, gx_gr h hn _⟩)
theorem kS.re {h H : am_H} {s : aS} {n rt tw : Nat} {E W : Nat → Int} (w : kS h s) (o : gx h H [0, 11, 12]) (b : 43 ≤ h.1) (e0 : H.2 0 = some (kO n rt tw)) (e2 : H.2 11 = some (eI 80 E)) (e3 : H.2 12 = some (eL 32 W)) : kS H (n, s.2.1, rt, E, tw, W) := by
  obtain ⟨w0, ⟨f, w1, wf⟩, w2, w3, wt⟩ := w
  refine ⟨e0, ⟨f, by rw [o.2 1 (by omega) (by simp)]; exact w1, fun i hi => ?_⟩, e2, e3, wt.gx o (by omega) (by intro j _ _; simp; omega)⟩
  obtain ⟨r, e, r1, r2, r3⟩ := wf i hi
  exact ⟨r, e, r1, Nat.lt_of_lt_of_le r2 o.1, r3.gx o r2 (by intro j _ _; simp; omega)⟩
theorem kO_set5 (h : am_H) (n rt tw v : Int) : am_up h 0 (eO 4 ([Value.ref 1, .ref 2, vI n, .ref 11, vI rt, .ref 12, vI tw, .ref 13, .ref 15, .ref 17, .ref 19, .ref 21, .ref 23, .ref 24, .ref 31].set 6 (vI v))) = am_up h 0 (kO n rt v) := rfl
theorem kO_set3 (h : am_H) (n rt tw v : Int) : am_up h 0 (eO 4 ([Value.ref 1, .ref 2, vI n, .ref 11, vI rt, .ref 12, vI tw, .ref 13, .ref 15, .ref 17, .ref 19, .ref 21, .ref 23, .ref 24, .ref 31].set 4 (vI v))) = am_up h 0 (kO n v tw) := rfl
def aWeight (s : aS) (v : Int) : Int × aS := if s.2.2.2.2.1 = 32 ∨ v < 0 ∨ 1000000000 < v then (0, s) else (1, (s.1, s.2.1, s.2.2.1, s.2.2.2.1, s.2.2.2.2.1 + 1, am_fu s.2.2.2.2.2 s.2.2.2.2.1 v))
theorem m_weight (l : Launch) (g : am_G) {h : am_H} {s : aS} {v : Int} (w : kS h s) (b : 43 ≤ h.1) (ok : aOK s) (hv : -9223372036854775808 ≤ v ∧ v ≤ 9223372036854775807) :
    am_Met l g yX4_weight (am_W1 yX4_weight cX4_weight 3 (some .boolean)) 1 0 0 [.ref 0, vL v] h (qI fun r h1 => okR h s (aWeight s v) K39 r h1) := by
  have h0 := w.1
  have h3 := w.2.2.2.1
  have tw := ok.2.2.2.2.1
  refine am_mk [some (.ref 0), some (vL v), none] 0 rfl rfl (by decide +kernel) (fun x hl hg hC hT _ => ?_)
  refine am_aload0 hC dX4_weight_0 ?_
  refine am_getf hC dX4_weight_1 fX4_168 h0 rfl ?_
  refine am_if_lt hC 33 dX4_weight_4 rfl (by omega) (fun c4 => ?_) (fun c4 => ?_)
  · have e : aWeight s v = (0, s) := by rw [aWeight, if_pos (by omega)]
    refine am_iconst hC dX4_weight_33 ?_
    exact am_zret hC hT dX4_weight_34 (by omega) (by omega) (by omega) ⟨_, rfl, by rw [e], by rw [e]; exact w, gx.rf _ _⟩
  · refine am_aload0 hC dX4_weight_7 ?_
    refine am_getf hC dX4_weight_8 fX4_168 h0 rfl ?_
    refine am_aload0 hC dX4_weight_11 ?_
    refine am_getf hC dX4_weight_12 fX4_32 h0 rfl ?_
    refine am_alenL hC dX4_weight_15 h3 ?_
    refine am_icmp_ge hC 33 dX4_weight_16 rfl (by omega) (by omega) (fun c16 => ?_) (fun c16 => ?_)
    · have e : aWeight s v = (0, s) := by rw [aWeight, if_pos (by omega)]
      refine am_iconst hC dX4_weight_33 ?_
      exact am_zret hC hT dX4_weight_34 (by omega) (by omega) (by omega) ⟨_, rfl, by rw [e], by rw [e]; exact w, gx.rf _ _⟩
    · refine am_lload1 hC dX4_weight_19 ?_
      refine am_lconst0 hC dX4_weight_20 ?_
      refine am_lif_lt hC 33 dX4_weight_21 dX4_weight_22 rfl (by omega) (by omega) (fun c22 => ?_) (fun c22 => ?_)
      · have e : aWeight s v = (0, s) := by rw [aWeight, if_pos (by omega)]
        refine am_iconst hC dX4_weight_33 ?_
        exact am_zret hC hT dX4_weight_34 (by omega) (by omega) (by omega) ⟨_, rfl, by rw [e], by rw [e]; exact w, gx.rf _ _⟩
      · refine am_lload1 hC dX4_weight_25 ?_
        refine am_ldc2 hC (1000000000) dX4_weight_26 cX4_171 rfl ?_
        refine am_lif_le hC 35 dX4_weight_29 dX4_weight_30 rfl (by omega) (by omega) (fun c30 => ?_) (fun c30 => ?_)
        · refine am_aload0 hC dX4_weight_35 ?_
          refine am_getf hC dX4_weight_36 fX4_32 h0 rfl ?_
          refine am_aload0 hC dX4_weight_39 ?_
          refine am_getf hC dX4_weight_40 fX4_168 h0 rfl ?_
          refine am_lload1 hC dX4_weight_43 ?_
          have e : aWeight s v = (1, (s.1, s.2.1, s.2.2.1, s.2.2.2.1, s.2.2.2.2.1 + 1, am_fu s.2.2.2.2.2 s.2.2.2.2.1 v)) := by rw [aWeight, if_neg (by omega)]
          refine am_last hC dX4_weight_44 h3 (by omega) (by omega) ?_
          rw [Int.toNat_natCast]
          refine am_heap (fun H1 e1 => ?_)
          have g1 : gx h H1 [12] := by rw [e1]; exact gx_up _ _ _
          have N3 : H1.2 12 = _ := (congrArg (fun H => H.2 12) e1).trans (am_up_at _ _ _)
          clear e1
          have k0 : H1.2 0 = _ := (g1.2 0 (by omega) (by simp)).trans h0
          refine am_aload0 hC dX4_weight_45 ?_
          refine am_dup hC dX4_weight_46 rfl ?_
          refine am_getf hC dX4_weight_47 fX4_168 k0 rfl ?_
          refine am_iconst hC dX4_weight_50 ?_
          refine am_iadd hC dX4_weight_51 ?_
          refine am_putf hC dX4_weight_52 pX4_168 (fun q => by cases q) k0 (am_fitI _) (Nat.le_of_ble_eq_true rfl) ?_
          refine am_iconst hC dX4_weight_55 ?_
          rw [kO_set5]
          refine am_heap (fun H2 e2 => ?_)
          have g2 : gx H1 H2 [0] := by rw [e2]; exact gx_up _ _ _
          have M0 : H2.2 0 = _ := (congrArg (fun H => H.2 0) e2).trans (am_up_at _ _ _)
          clear e2
          have b1 := g1.1
          have G : gx h H2 [0, 11, 12] := (g1.wk (by simp)).tr (g2.wk (by simp))
          exact am_zret hC hT dX4_weight_56 (by omega) (by omega) (by omega) ⟨_, rfl, by rw [e], by rw [e]; exact w.re G b M0 ((g2.2 11 (by omega) (by simp)).trans ((g1.2 11 (by omega) (by simp)).trans w.2.2.1)) ((g2.2 12 (by omega) (by simp)).trans N3), G.wk (by simp)⟩
        · have e : aWeight s v = (0, s) := by rw [aWeight, if_pos (by omega)]
          refine am_iconst hC dX4_weight_33 ?_
          exact am_zret hC hT dX4_weight_34 (by omega) (by omega) (by omega) ⟨_, rfl, by rw [e], by rw [e]; exact w, gx.rf _ _⟩
def wZ (W : Nat → Int) (n : Nat) : Nat → Int := fun i => if i < n then 0 else W i
theorem wZ_s (W : Nat → Int) (n : Nat) : am_fu (wZ W n) n 0 = wZ W (n + 1) := by
  funext i
  unfold am_fu wZ
  by_cases c : i = n
  · rw [if_pos c, if_pos (by omega)]
  · rw [if_neg c]
    by_cases d : i < n
    · rw [if_pos d, if_pos (by omega)]
    · rw [if_neg d, if_neg (by omega)]
theorem wZ_0 (W : Nat → Int) : wZ W 0 = W := by
  funext i
  unfold wZ
  rw [if_neg (by omega)]
def aClear (s : aS) : aS := (s.1, s.2.1, s.2.2.1, s.2.2.2.1, 0, wZ s.2.2.2.2.2 32)
theorem m_clearWeights (l : Launch) (g : am_G) {h : am_H} {s : aS} (w : kS h s) (b : 43 ≤ h.1) :
    am_Met l g yX4_clearWeights (am_W1 yX4_clearWeights cX4_clearWeights 2 none) 1 0 0 [.ref 0] h (qN fun h1 => kS h1 (aClear s) ∧ gx h h1 K39) := by
  have h0 := w.1
  have h3 := w.2.2.2.1
  refine am_mk [some (.ref 0), none] 1 rfl rfl (by decide +kernel) (fun x hl hg hC hT _ => ?_)
  have loop : ∀ (m i : Nat) (H : am_H), i + m = 32 → gx h H [12] → H.2 12 = some (eL 32 (wZ s.2.2.2.2.2 i)) → am_W x 2 0 0 H [some (.ref 0), some (vI (i : Int))] [] := by
    intro m
    induction m with
    | zero =>
      intro i H hi o e3
      rw [show i = 32 by omega] at e3 ⊢
      have k0 : H.2 0 = _ := (o.2 0 (by omega) (by simp)).trans h0
      refine am_iload1 hC dX4_clearWeights_2 ?_
      refine am_aload0 hC dX4_clearWeights_3 ?_
      refine am_getf hC dX4_clearWeights_4 fX4_32 k0 rfl ?_
      refine am_alenL hC dX4_clearWeights_7 e3 ?_
      refine am_icmp_ge hC 24 dX4_clearWeights_8 rfl (by omega) (by omega) (fun c8 => ?_) (fun c8 => ?_)
      · refine am_aload0 hC dX4_clearWeights_24 ?_
        refine am_iconst hC dX4_clearWeights_25 ?_
        refine am_putf hC dX4_clearWeights_26 pX4_168 (fun q => by cases q) k0 (am_fitI _) (Nat.le_of_ble_eq_true rfl) ?_
        rw [kO_set5]
        refine am_heap (fun H2 e2 => ?_)
        have g2 : gx H H2 [0] := by rw [e2]; exact gx_up _ _ _
        have M0 : H2.2 0 = _ := (congrArg (fun H => H.2 0) e2).trans (am_up_at _ _ _)
        clear e2
        have b1 := o.1
        have G : gx h H2 [0, 11, 12] := (o.wk (by simp)).tr (g2.wk (by simp))
        exact am_vret hC hT dX4_clearWeights_29 (by omega) (by omega) ⟨rfl, w.re G b M0 ((g2.2 11 (by omega) (by simp)).trans ((o.2 11 (by omega) (by simp)).trans w.2.2.1)) ((g2.2 12 (by omega) (by simp)).trans e3), G.wk (by simp)⟩
      · exact absurd c8 (by omega)
    | succ m ih =>
      intro i H hi o e3
      have k0 : H.2 0 = _ := (o.2 0 (by omega) (by simp)).trans h0
      refine am_iload1 hC dX4_clearWeights_2 ?_
      refine am_aload0 hC dX4_clearWeights_3 ?_
      refine am_getf hC dX4_clearWeights_4 fX4_32 k0 rfl ?_
      refine am_alenL hC dX4_clearWeights_7 e3 ?_
      refine am_icmp_ge hC 24 dX4_clearWeights_8 rfl (by omega) (by omega) (fun c8 => ?_) (fun c8 => ?_)
      · exact absurd c8 (by omega)
      · refine am_aload0 hC dX4_clearWeights_11 ?_
        refine am_getf hC dX4_clearWeights_12 fX4_32 k0 rfl ?_
        refine am_iload1 hC dX4_clearWeights_15 ?_
        refine am_lconst0 hC dX4_clearWeights_16 ?_
        refine am_last hC dX4_clearWeights_17 e3 (by omega) (by omega) ?_
        refine am_iinc1 hC dX4_clearWeights_18 rfl ?_
        refine am_goto hC 2 dX4_clearWeights_21 rfl ?_
        rw [show (i : Int) + 1 = ((i + 1 : Nat) : Int) by omega, Int.toNat_natCast, wZ_s]
        exact ih (i + 1) _ (by omega) (o.tr (gx_up _ _ _)) (am_up_at _ _ _)
  refine am_iconst hC dX4_clearWeights_0 ?_
  refine am_istore1 hC dX4_clearWeights_1 rfl ?_
  exact loop 32 0 h rfl (gx.rf _ _) (by rw [wZ_0]; exact h3)
def okE (r v : Int) : Prop := (0 ≤ r ∧ r < 40) ∧ 0 ≤ v ∧ v < 2
theorem m_end (l : Launch) (g : am_G) {h : am_H} {s : aS} {r v : Int} (hst : l.stackTraces = false) (w : kS h s) (hr : IR r) (hv : IR v) :
    am_MetX l g yX4_end (am_W1 yX4_end cX4_end 4 (some .int)) 7 1 6 [.ref 0, vI r, vI v] h (qI fun a h1 => okE r v ∧ a = s.2.2.2.1 (2 * r + v).toNat ∧ h1 = h) (xK h s (fun E => E = am_AIO ∧ ¬ okE r v)) := by
  have h0 := w.1
  have h2 := w.2.2.1
  refine am_mkX [some (.ref 0), some (vI r), some (vI v), none] 1 hst rfl rfl (by decide +kernel) (fun x hl hg hC hT hTX => ?_)
  refine am_iload1 hC dX4_end_0 ?_
  refine am_if_lt hC 10 dX4_end_1 rfl (by omega) (fun c1 => ?_) (fun c1 => ?_)
  · exact am_throw hC hTX tX4_139_141_143 dX4_end_10 dX4_end_13 dX4_end_14 dX4_end_16 dX4_end_19 (by decide) (by decide) (by omega) (by omega) (fun n1 hn => ⟨⟨rfl, by unfold okE; omega⟩, w.gr hn, gx_gr h hn _⟩)
  · refine am_iload1 hC dX4_end_4 ?_
    refine am_bipush hC dX4_end_5 rfl ?_
    refine am_icmp_lt hC 20 dX4_end_7 rfl (by omega) (by omega) (fun c7 => ?_) (fun c7 => ?_)
    · refine am_iload2 hC dX4_end_20 ?_
      refine am_if_lt hC 29 dX4_end_21 rfl (by omega) (fun c21 => ?_) (fun c21 => ?_)
      · exact am_throw hC hTX tX4_139_144_143 dX4_end_29 dX4_end_32 dX4_end_33 dX4_end_35 dX4_end_38 (by decide) (by decide) (by omega) (by omega) (fun n1 hn => ⟨⟨rfl, by unfold okE; omega⟩, w.gr hn, gx_gr h hn _⟩)
      · refine am_iload2 hC dX4_end_24 ?_
        refine am_iconst hC dX4_end_25 ?_
        refine am_icmp_lt hC 39 dX4_end_26 rfl (by omega) (by omega) (fun c26 => ?_) (fun c26 => ?_)
        · refine am_iload1 hC dX4_end_39 ?_
          refine am_iconst hC dX4_end_40 ?_
          refine am_imul hC dX4_end_41 ?_
          refine am_iload2 hC dX4_end_42 ?_
          refine am_iadd hC dX4_end_43 ?_
          refine am_istore3 hC dX4_end_44 rfl ?_
          refine am_iload3 hC dX4_end_45 ?_
          refine am_if_lt hC 67 dX4_end_46 rfl (by omega) (fun c46 => ?_) (fun c46 => ?_)
          · exact absurd c46 (by omega)
          · refine am_iload3 hC dX4_end_49 ?_
            refine am_aload0 hC dX4_end_50 ?_
            refine am_getf hC dX4_end_51 fX4_28 h0 rfl ?_
            refine am_alenI hC dX4_end_54 h2 ?_
            refine am_icmp_ge hC 67 dX4_end_55 rfl (by omega) (by omega) (fun c55 => ?_) (fun c55 => ?_)
            · exact absurd c55 (by omega)
            · refine am_aload0 hC dX4_end_58 ?_
              refine am_getf hC dX4_end_59 fX4_28 h0 rfl ?_
              refine am_iload3 hC dX4_end_62 ?_
              refine am_iald hC dX4_end_63 h2 (by omega) (by omega) ?_
              refine am_goto hC 68 dX4_end_64 rfl ?_
              exact am_iret hC hT dX4_end_68 (by omega) (by omega) ⟨_, rfl, ⟨⟨by omega, by omega⟩, by omega, by omega⟩, by rw [show r * 2 + v = 2 * r + v by omega], rfl⟩
        · exact am_throw hC hTX tX4_139_144_143 dX4_end_29 dX4_end_32 dX4_end_33 dX4_end_35 dX4_end_38 (by decide) (by decide) (by omega) (by omega) (fun n1 hn => ⟨⟨rfl, by unfold okE; omega⟩, w.gr hn, gx_gr h hn _⟩)
    · exact am_throw hC hTX tX4_139_141_143 dX4_end_10 dX4_end_13 dX4_end_14 dX4_end_16 dX4_end_19 (by decide) (by decide) (by omega) (by omega) (fun n1 hn => ⟨⟨rfl, by unfold okE; omega⟩, w.gr hn, gx_gr h hn _⟩)
def aTurn (s : aS) (i a b : Nat) : Int × aS := aPut s (s.2.1 i).1 ((s.2.1 i).2.1 * (am_tab a).natAbs) ((s.2.1 i).2.2 * (am_tab b).natAbs)
theorem bl_mul' {a b m n : Nat} (ha : bl a ≤ m) (hb : bl b ≤ n) : bl (a * b) ≤ m + n := by
  have h1 := bl_le.mp ha
  have h2 := bl_le.mp hb
  refine bl_le.mpr ?_
  rw [Nat.pow_add]
  rcases Nat.eq_zero_or_pos b with c | c
  · subst c; rw [Nat.mul_zero]; exact Nat.mul_pos (Nat.two_pow_pos _) (Nat.two_pow_pos _)
  · exact Nat.lt_of_lt_of_le (Nat.mul_lt_mul_of_pos_right h1 c) (Nat.mul_le_mul_left _ (Nat.le_of_lt h2))
theorem tabs (k : Nat) : bl (am_tab k).natAbs ≤ 19 ∧ szn (am_tab k).natAbs ≤ 1 ∧ 0 < (am_tab k).natAbs := by
  have := am_tab_r k
  exact ⟨bl_le.mpr (Nat.lt_of_le_of_lt (show (am_tab k).natAbs ≤ 300000 by omega) (by decide)), szn_le.mpr (Nat.lt_of_le_of_lt (show (am_tab k).natAbs ≤ 300000 by omega) (by decide)), by omega⟩
theorem m_turn (l : Launch) (g : am_G) {h : am_H} {s : aS} {i a b : Int} (hst : l.stackTraces = false) (w : kS h s) (h47 : 51 ≤ h.1) (ok : aOK s) (hi : IR i) (ha : IR a) (hb : IR b) :
    am_MetX l g yX4_turn (am_W1 yX4_turn cX4_turn 5 (some .int)) 8 8 137 [.ref 0, vI i, vI a, vI b] h (qI fun v h1 => okV i ∧ okU a ∧ okU b ∧ okR h s (aTurn s i.toNat a.toNat b.toNat) K39 v h1) (xK h s (fun E => E = am_AIO ∧ ¬ (okV i ∧ okU a ∧ okU b))) := by
  have h0 := w.1
  refine am_mkX [some (.ref 0), some (vI i), some (vI a), some (vI b), none] 1 hst rfl rfl (by decide +kernel) (fun x hl hg hC hT hTX => ?_)
  refine am_aload0 hC dX4_turn_0 ?_
  refine am_iload1 hC dX4_turn_1 ?_
  refine am_xV1_qA hC 4 hTX dX4_turn_2 kX4_87 (m_fractionAt _ _ (by rw [hl]; exact hst) w hi) h0 rfl (Nat.le_of_ble_eq_true rfl) (by decide) (by omega) (by omega) (xK.wk (gx.rf _ _) (fun E q => ⟨q.1, fun c => q.2 c.1⟩)) (fun r1 hx1 q => ?_)
  obtain ⟨e, oi, r1a, r1b, F⟩ := q
  rw [e]
  clear e hx1
  obtain ⟨u, hu⟩ : ∃ u, u = s.2.1 i.toNat := ⟨_, rfl⟩
  have ku : vOK u := by rw [hu]; exact ok.2.1 _ (by have := oi.2; have := oi.1; omega)
  rw [← hu] at F
  obtain ⟨ku1, ku2, ku3, ku4, ku5⟩ := ku
  have cu := cap800 ku4
  have cu' := cap800 ku5
  have t1 := w.2.2.2.2.2.2.1
  have ⟨n1, te1⟩ := t1.o
  refine am_astore4 hC dX4_turn_5 rfl ?_
  refine am_aload0 hC dX4_turn_7 ?_
  refine am_getf hC dX4_turn_8 fX4_49 h0 rfl ?_
  refine am_iload2 hC dX4_turn_11 ?_
  refine am_xS1_qL hC hTX dX4_turn_12 kX4_164 (m_unitLength _ _ (by rw [hl]; exact hst) w ha) (Nat.le_of_ble_eq_true rfl) (by decide) (by omega) (by omega) (xK.wk (gx.rf _ _) (fun E q => ⟨q.1, fun c => q.2 c.2.1⟩)) (fun v1 hx1 q => ?_)
  obtain ⟨oa, ev, e⟩ := q
  rw [e, ev]
  clear e ev hx1
  have ra := am_tab_r a.toNat
  have rb := am_tab_r b.toNat
  have xa := tabs a.toNat
  have xb := tabs b.toNat
  refine am_V1_qN hC 3 dX4_turn_15 kX4_79 (m_setMagnitude _ _ t1 (by omega) (by omega)) te1 rfl (Nat.le_of_ble_eq_true rfl) (by decide) (by omega) (by omega) (fun h1 r => ?_)
  obtain ⟨w1, o1⟩ := r
  have v1 := w.w (by omega) o1 w1.cc (by omega)
  have k1 := v1.1
  have H1 : h1.1 = h.1 := o1.1
  have t2 := v1.2.2.2.2.2.2.2.1
  have ⟨n2, te2⟩ := t2.o
  have Fa := F.on o1 (by intro j _ _; simp; omega)
  refine am_aload0 hC dX4_turn_18 ?_
  refine am_getf hC dX4_turn_19 fX4_52 k1 rfl ?_
  refine am_iload3 hC dX4_turn_22 ?_
  refine am_xS1_qL hC hTX dX4_turn_23 kX4_164 (m_unitLength _ _ (by rw [hl]; exact hst) v1 hb) (Nat.le_of_ble_eq_true rfl) (by decide) (by omega) (by omega) (xK.wk (o1.gx.wk (by simp)) (fun E q => ⟨q.1, fun c => q.2 c.2.2⟩)) (fun vv hx1 q => ?_)
  obtain ⟨ob, ev, e⟩ := q
  rw [e, ev]
  clear e ev hx1
  refine am_V1_qN hC 3 dX4_turn_26 kX4_79 (m_setMagnitude _ _ t2 (by omega) (by omega)) te2 rfl (Nat.le_of_ble_eq_true rfl) (by decide) (by omega) (by omega) (fun h2 r => ?_)
  obtain ⟨w2, o2⟩ := r
  have v2 := v1.w (by omega) o2 w2.cc (by omega)
  have k2 := v2.1
  have H2 : h2.1 = h.1 := o2.1.trans H1
  have w12 := w1.kept o2 (by simp) (by simp)
  have t3 := v2.2.2.2.2.1
  have ⟨n3, te3⟩ := t3.o
  have Fb := Fa.on o2 (by intro j _ _; simp; omega)
  have fb := Fb.1
  refine am_aload0 hC dX4_turn_29 ?_
  refine am_getf hC dX4_turn_30 fX4_43 k2 rfl ?_
  refine am_aload4 hC dX4_turn_33 ?_
  refine am_getf hC dX4_turn_35 fX4_91 fb rfl ?_
  refine am_aload0 hC dX4_turn_38 ?_
  refine am_getf hC dX4_turn_39 fX4_49 k2 rfl ?_
  refine am_V2_qN hC 3 dX4_turn_42 kX4_97 (m_setProduct _ _ t3 Fb.2.1 w12 (by omega) (by omega) (by omega)) te3 rfl (Nat.le_of_ble_eq_true rfl) (by decide) (by omega) (by omega) (fun h3 r => ?_)
  obtain ⟨w3, o3⟩ := r
  have v3 := v2.w (by omega) o3 w3.cc (by omega)
  have k3 := v3.1
  have H3 : h3.1 = h.1 := o3.1.trans H2
  have w23 := w2.kept o3 (by simp) (by simp)
  have t4 := v3.2.2.2.2.2.1
  have ⟨n4, te4⟩ := t4.o
  have Fc := Fb.on o3 (by intro j _ _; simp; omega)
  have fc := Fc.1
  refine am_aload0 hC dX4_turn_45 ?_
  refine am_getf hC dX4_turn_46 fX4_46 k3 rfl ?_
  refine am_aload4 hC dX4_turn_49 ?_
  refine am_getf hC dX4_turn_51 fX4_94 fc rfl ?_
  refine am_aload0 hC dX4_turn_54 ?_
  refine am_getf hC dX4_turn_55 fX4_52 k3 rfl ?_
  refine am_V2_qN hC 3 dX4_turn_58 kX4_97 (m_setProduct _ _ t4 Fc.2.2 w23 (by omega) (by omega) (by omega)) te4 rfl (Nat.le_of_ble_eq_true rfl) (by decide) (by omega) (by omega) (fun h4 r => ?_)
  obtain ⟨w4, o4⟩ := r
  have v4 := v3.w (by omega) o4 w4.cc (by omega)
  have k4 := v4.1
  have H4 : h4.1 = h.1 := o4.1.trans H3
  have w34 := w3.kept o4 (by simp) (by simp)
  have fd := (Fc.on o4 (by intro j _ _; simp; omega)).1
  have G4 : gx h h4 K39 := (o1.gx.wk (by simp)).tr ((o2.gx.wk (by simp)).tr ((o3.gx.wk (by simp)).tr (o4.gx.wk (by simp))))
  have s1 := bl_mul' ku4 xa.1
  have s2 := bl_mul' ku5 xb.1
  have s3 := szn_bl (u.2.1 * (am_tab a.toNat).natAbs)
  have s4 := szn_bl (u.2.2 * (am_tab b.toNat).natAbs)
  refine am_aload0 hC dX4_turn_61 ?_
  refine am_aload4 hC dX4_turn_62 ?_
  refine am_getf hC dX4_turn_64 fX4_101 fd rfl ?_
  refine am_V1_qI hC 4 dX4_turn_67 kX4_83 (m_putNew _ _ v4 (by omega) ok.1 w34 w4 (Nat.mul_pos ku3 xb.2.2) (by omega) (by omega)) k4 rfl (Nat.le_of_ble_eq_true rfl) (by decide) (by omega) (by omega) (fun rv h5 r => ?_)
  obtain ⟨rfl, v5, g5⟩ := r
  exact am_iret hC hT dX4_turn_70 (by omega) (by omega) ⟨_, rfl, oi, oa, ob, by rw [aTurn, ← hu], by rw [aTurn, ← hu]; exact v5, G4.tr (g5.wk kP39)⟩

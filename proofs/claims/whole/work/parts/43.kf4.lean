/-! KerfFractions: what keeps its state; fractionAt, putNew -/
theorem kS.tmp {h h1 : am_H} {S : List Nat} {s : aS} (w : kS h s) (o : gx h h1 S) (b : 43 ≤ h.1) (q : ∀ j ∈ S, 13 ≤ j ∧ j < 43) (t : kT h1) : kS h1 s := by
  obtain ⟨w0, ⟨f, w1, wf⟩, w2, w3, -⟩ := w
  have no : ∀ j, j < 13 ∨ 43 ≤ j → j ∉ S := fun j hj c => by have := q j c; omega
  refine ⟨by rw [o.2 0 (by omega) (no _ (by omega))]; exact w0, ⟨f, by rw [o.2 1 (by omega) (no _ (by omega))]; exact w1, fun i hi => ?_⟩, by rw [o.2 11 (by omega) (no _ (by omega))]; exact w2, by rw [o.2 12 (by omega) (no _ (by omega))]; exact w3, t⟩
  obtain ⟨r, e, r1, r2, r3⟩ := wf i hi
  exact ⟨r, e, r1, Nat.lt_of_lt_of_le r2 o.1, r3.gx o r2 (fun j a _ => no j (by omega))⟩
theorem kT.w {h h1 : am_H} {i : Nat} (w : kT h) (o : only h h1 [i, i + 1]) (c : wC h1 i 56) (hi : i = 15 ∨ i = 17 ∨ i = 19 ∨ i = 21) : kT h1 := by
  obtain ⟨w1, w2, w3, w4, w5, ⟨f, w6⟩, w7, w8⟩ := w
  have p1 : wC h1 15 56 := by
    by_cases e : i = 15
    · rw [← e]; exact c
    · exact w1.kept o (by simp <;> omega) (by simp <;> omega)
  have p2 : wC h1 17 56 := by
    by_cases e : i = 17
    · rw [← e]; exact c
    · exact w2.kept o (by simp <;> omega) (by simp <;> omega)
  have p3 : wC h1 19 56 := by
    by_cases e : i = 19
    · rw [← e]; exact c
    · exact w3.kept o (by simp <;> omega) (by simp <;> omega)
  have p4 : wC h1 21 56 := by
    by_cases e : i = 21
    · rw [← e]; exact c
    · exact w4.kept o (by simp <;> omega) (by simp <;> omega)
  have p8 : wM h1 31 := by
    obtain ⟨⟨A, B, C, D, e⟩, d1, d2, d3⟩ := w8
    exact ⟨⟨A, B, C, D, by rw [o.2 _ (by simp <;> omega)]; exact e⟩, d1.kept o (by intro j _ _; simp; omega), d2.kept o (by simp <;> omega) (by simp <;> omega), d3.kept o (by simp <;> omega) (by simp <;> omega)⟩
  exact ⟨p1, p2, p3, p4, w5.kept o (by simp <;> omega) (by simp <;> omega), ⟨f, by rw [o.2 _ (by simp <;> omega)]; exact w6⟩, w7.kept o (by intro j _ _; simp; omega), p8⟩
theorem kS.w {h h1 : am_H} {i : Nat} {s : aS} (w : kS h s) (b : 43 ≤ h.1) (o : only h h1 [i, i + 1]) (c : wC h1 i 56) (hi : i = 15 ∨ i = 17 ∨ i = 19 ∨ i = 21) : kS h1 s :=
  w.tmp o.gx b (by intro j hj; simp at hj; omega) (w.2.2.2.2.w o c hi)
theorem kS.dv {h h1 : am_H} {s : aS} (w : kS h s) (b : 43 ≤ h.1) (o : only h h1 (dS 24)) (c : wD h1 24) : kS h1 s := by
  refine w.tmp o.gx b (by intro j hj; simp at hj; omega) ?_
  obtain ⟨w1, w2, w3, w4, w5, ⟨f, w6⟩, w7, w8⟩ := w.2.2.2.2
  exact ⟨w1.kept o (by simp) (by simp), w2.kept o (by simp) (by simp), w3.kept o (by simp) (by simp), w4.kept o (by simp) (by simp), w5.kept o (by simp) (by simp), ⟨f, by rw [o.2 _ (by simp)]; exact w6⟩, c, w8.gx o.gx (by omega) (by intro j _ _; simp; omega)⟩
theorem kS.mv {h h1 : am_H} {s : aS} (w : kS h s) (b : 43 ≤ h.1) (o : only h h1 (mS 31)) (c : wM h1 31) : kS h1 s := by
  refine w.tmp o.gx b (by intro j hj; simp at hj; omega) ?_
  obtain ⟨w1, w2, w3, w4, w5, ⟨f, w6⟩, w7, w8⟩ := w.2.2.2.2
  exact ⟨w1.kept o (by simp) (by simp), w2.kept o (by simp) (by simp), w3.kept o (by simp) (by simp), w4.kept o (by simp) (by simp), w5.kept o (by simp) (by simp), ⟨f, by rw [o.2 _ (by simp)]; exact w6⟩, w7.kept o (by intro j _ _; simp; omega), c⟩
/-- more cells -/
theorem kS.gr {h : am_H} {s : aS} (w : kS h s) {n1 : Nat} (b : h.1 ≤ n1) : kS (n1, h.2) s := by
  obtain ⟨w0, ⟨f, w1, wf⟩, w2, w3, w4⟩ := w
  refine ⟨w0, ⟨f, w1, fun i hi => ?_⟩, w2, w3, w4⟩
  obtain ⟨r, e, r1, r2, r3⟩ := wf i hi
  exact ⟨r, e, r1, Nat.lt_of_lt_of_le r2 b, r3⟩
abbrev K39 : List Nat := List.range 43
theorem gx_gr (h : am_H) {n1 : Nat} (b : h.1 ≤ n1) (S : List Nat) : gx h (n1, h.2) S := ⟨b, fun _ _ _ => rfl⟩
def okV (j : Int) : Prop := 0 ≤ j ∧ j < 150
/-- a thrown exception leaves the state as it was -/
def xK (h : am_H) (s : aS) (P : String → Prop) : String → am_H → Prop := fun E h1 => P E ∧ kS h1 s ∧ gx h h1 K39
theorem xK.wk {h h2 : am_H} {s : aS} {P P' : String → Prop} (o : gx h h2 K39) (q : ∀ E, P E → P' E) : ∀ E h1, xK h2 s P E h1 → xK h s P' E h1 := fun E _ w => ⟨q E w.1, w.2.1, o.tr w.2.2⟩
/-! null: kept, fetched, asked for -/
theorem am_ifnullR {x : am_X} {cc : ByteArray} {own : String} {n mc ms : Nat} (hC : am_C x cc own n mc ms) {pc k z : Nat} {h : am_H} {ls : List (Option Value)} {st : List Value} {off : Int} {i : Nat} (d : decode cc pc = .ok (.ifnull off, 3)) (kk : am_W x (pc + 3) k z h ls st) : am_W x pc k z h ls (.ref i :: st) := by
  obtain ⟨p, l, e, R, s, m, args, below, meth, c, Q, g, nL⟩ := x
  obtain ⟨hx, hb, hml, hown, hts, hI, hlk, hR⟩ := hC
  intro H locs la hH hS hL
  exact lv_ifnull hx hb d (kk H locs la hH hS hL)
theorem am_ifnullN {x : am_X} {cc : ByteArray} {own : String} {n mc ms : Nat} (hC : am_C x cc own n mc ms) {pc k z : Nat} {h : am_H} {ls : List (Option Value)} {st : List Value} {off : Int} (tgt : Nat) (d : decode cc pc = .ok (.ifnull off, 3)) (ht : (pc : Int) + off = (tgt : Int)) (kk : am_W x tgt k z h ls st) : am_W x pc k z h ls (.null :: st) := by
  obtain ⟨p, l, e, R, s, m, args, below, meth, c, Q, g, nL⟩ := x
  obtain ⟨hx, hb, hml, hown, hts, hI, hlk, hR⟩ := hC
  intro H locs la hH hS hL
  exact lv_ifnullN hx hb d ht (kk H locs la hH hS hL)
theorem am_aload2N {x : am_X} {cc : ByteArray} {own : String} {n mc ms : Nat} (hC : am_C x cc own n mc ms) {pc k z : Nat} {h : am_H} {st : List Value} {y0 y1 : Option Value} {tl : List (Option Value)} (d : decode cc pc = .ok (.aload_n 2, 1)) (kk : am_W x (pc + 1) k z h (y0 :: y1 :: some Value.null :: tl) (.null :: st)) : am_W x pc k z h (y0 :: y1 :: some Value.null :: tl) st := by
  obtain ⟨p, l, e, R, s, m, args, below, meth, c, Q, g, nL⟩ := x
  obtain ⟨hx, hb, hml, hown, hts, hI, hlk, hR⟩ := hC
  intro H locs la hH hS hL
  exact lv_aload_nN hx hb d rfl (hL.2.2 2 _ rfl) (kk H locs la hH hS hL)
theorem am_astore2N {x : am_X} {cc : ByteArray} {own : String} {n mc ms : Nat} (hC : am_C x cc own n mc ms) {pc k z : Nat} {h : am_H} {st : List Value} {y0 y1 o0 : Option Value} {tl : List (Option Value)} (d : decode cc pc = .ok (.astore_n 2, 1)) (hp : am_n2 y1 = true) (kk : am_W x (pc + 1) k z h (y0 :: y1 :: some Value.null :: tl) st) : am_W x pc k z h (y0 :: y1 :: o0 :: tl) (.null :: st) := by
  obtain ⟨p, l, e, R, s, m, args, below, meth, c, Q, g, nL⟩ := x
  obtain ⟨hx, hb, hml, hown, hts, hI, hlk, hR⟩ := hC
  intro H locs la hH hS hL
  have hlt : 2 < nL := by have := hL.2.1; simp at this; omega
  obtain ⟨la', e1, hL'⟩ := am_st1 (i := 2) Value.null hL hlt rfl (am_hp (i := 1) rfl hp)
  intro T hT X
  obtain ⟨t, a1, b1⟩ := kk H locs la' hH hS hL' T hT X
  refine ⟨t, ?_, b1⟩
  have e2 : storeLocals la 2 .null = some la' := e1
  have e3 : (Value.null :: st).map (am_c g.1) = .null :: st.map (am_c g.1) := rfl
  rw [e3]
  jvm_step X.here [X.here.top, ↓top_set X.here.top, hx, hb, d, e2, Value.isRef]
  exact a1
theorem m_fractionAt (l : Launch) (g : am_G) {h : am_H} {s : aS} {j : Int} (hst : l.stackTraces = false) (w : kS h s) (hj : IR j) :
    am_MetX l g yX4_fractionAt (am_W1 yX4_fractionAt cX4_fractionAt 3 (some (.object "KerfFractions$Fraction"))) 7 1 6 [.ref 0, vI j] h (qA fun r h1 => h1 = h ∧ okV j ∧ ((r = 2 ∧ fpT r = 7 ∧ fpB r = 9) ∨ (51 ≤ r ∧ 51 ≤ fpT r ∧ 51 ≤ fpB r)) ∧ fpE r < h.1 ∧ fF h r (s.2.1 j.toNat)) (xK h s (fun E => E = am_AIO ∧ ¬ okV j)) := by
  have h0 := w.1
  obtain ⟨f, h1, hf⟩ := w.2.1
  refine am_mkX [some (.ref 0), some (vI j), none] 1 hst rfl rfl (by decide +kernel) (fun x hl hg hC hT hTX => ?_)
  refine am_iload1 hC dX4_fractionAt_0 ?_
  refine am_if_lt hC 13 dX4_fractionAt_1 rfl (by omega) (fun c1 => ?_) (fun c1 => ?_)
  · exact am_throw hC hTX tX4_139_205_143 dX4_fractionAt_13 dX4_fractionAt_16 dX4_fractionAt_17 dX4_fractionAt_19 dX4_fractionAt_22 (by decide) (by decide) (by omega) (by omega) (fun n1 hn => ⟨⟨rfl, by unfold okV; omega⟩, w.gr hn, gx_gr h hn _⟩)
  · refine am_iload1 hC dX4_fractionAt_4 ?_
    refine am_aload0 hC dX4_fractionAt_5 ?_
    refine am_getf hC dX4_fractionAt_6 fX4_11 h0 rfl ?_
    refine am_alenR hC dX4_fractionAt_9 h1 ?_
    refine am_icmp_lt hC 23 dX4_fractionAt_10 rfl (by omega) (by omega) (fun c10 => ?_) (fun c10 => ?_)
    · refine am_aload0 hC dX4_fractionAt_23 ?_
      refine am_getf hC dX4_fractionAt_24 fX4_11 h0 rfl ?_
      refine am_iload1 hC dX4_fractionAt_27 ?_
      refine am_aald hC dX4_fractionAt_28 h1 (by omega) (by omega) ?_
      obtain ⟨r, e, r1, r2, r3⟩ := hf j.toNat (by omega)
      rcases e with e | ⟨e, rfl⟩
      · rw [e]
        refine am_astore2 hC dX4_fractionAt_29 rfl ?_
        refine am_aload2 hC dX4_fractionAt_30 ?_
        refine am_ifnullR hC dX4_fractionAt_31 ?_
        refine am_aload2 hC dX4_fractionAt_34 ?_
        refine am_goto hC 42 dX4_fractionAt_35 rfl ?_
        exact am_aret hC hT dX4_fractionAt_42 (by omega) (by omega) ⟨_, rfl, rfl, ⟨by omega, by omega⟩, r1, r2, r3⟩
      · rw [e]
        refine am_astore2N hC dX4_fractionAt_29 rfl ?_
        refine am_aload2N hC dX4_fractionAt_30 ?_
        refine am_ifnullN hC 38 dX4_fractionAt_31 rfl ?_
        refine am_aload0 hC dX4_fractionAt_38 ?_
        refine am_getf hC dX4_fractionAt_39 fX4_24 h0 rfl ?_
        exact am_aret hC hT dX4_fractionAt_42 (by omega) (by omega) ⟨_, rfl, rfl, ⟨by omega, by omega⟩, r1, r2, r3⟩
    · exact am_throw hC hTX tX4_139_205_143 dX4_fractionAt_13 dX4_fractionAt_16 dX4_fractionAt_17 dX4_fractionAt_19 dX4_fractionAt_22 (by decide) (by decide) (by omega) (by omega) (fun n1 hn => ⟨⟨rfl, by unfold okV; omega⟩, w.gr hn, gx_gr h hn _⟩)

/-! KerfFractions: what keeps its state; fractionAt, putNew -/
theorem kS.tmp {h h1 : am_H} {S : List Nat} {s : aS} (w : kS h s) (o : gx h h1 S) (b : 39 ≤ h.1) (q : ∀ j ∈ S, 4 ≤ j ∧ j < 34) (t : kT h1) : kS h1 s := by
  obtain ⟨w0, ⟨f, w1, wf⟩, w2, w3, -⟩ := w
  have no : ∀ j, j < 4 ∨ 34 ≤ j → j ∉ S := fun j hj c => by have := q j c; omega
  refine ⟨by rw [o.2 0 (by omega) (no _ (by omega))]; exact w0, ⟨f, by rw [o.2 1 (by omega) (no _ (by omega))]; exact w1, fun i hi => ?_⟩, by rw [o.2 2 (by omega) (no _ (by omega))]; exact w2, by rw [o.2 3 (by omega) (no _ (by omega))]; exact w3, t⟩
  obtain ⟨r, e, r1, r2, r3⟩ := wf i hi
  exact ⟨r, e, r1, Nat.lt_of_lt_of_le r2 o.1, r3.gx o r2 (fun j a _ => no j (by omega))⟩
theorem kT.w {h h1 : am_H} {i : Nat} (w : kT h) (o : only h h1 [i, i + 1]) (c : wC h1 i 56) (hi : i = 4 ∨ i = 6 ∨ i = 8 ∨ i = 10) : kT h1 := by
  obtain ⟨w1, w2, w3, w4, w5, ⟨f, w6⟩, w7, w8⟩ := w
  have p1 : wC h1 4 56 := by by_cases e : i = 4; · rw [← e]; exact c
                             · exact w1.kept o (by simp <;> omega) (by simp <;> omega)
  have p2 : wC h1 6 56 := by by_cases e : i = 6; · rw [← e]; exact c
                             · exact w2.kept o (by simp <;> omega) (by simp <;> omega)
  have p3 : wC h1 8 56 := by by_cases e : i = 8; · rw [← e]; exact c
                             · exact w3.kept o (by simp <;> omega) (by simp <;> omega)
  have p4 : wC h1 10 56 := by by_cases e : i = 10; · rw [← e]; exact c
                              · exact w4.kept o (by simp <;> omega) (by simp <;> omega)
  have p8 : wM h1 22 := by
    obtain ⟨⟨A, B, C, D, e⟩, d1, d2, d3⟩ := w8
    exact ⟨⟨A, B, C, D, by rw [o.2 _ (by simp <;> omega)]; exact e⟩, d1.kept o (by intro j _ _; simp; omega), d2.kept o (by simp <;> omega) (by simp <;> omega), d3.kept o (by simp <;> omega) (by simp <;> omega)⟩
  exact ⟨p1, p2, p3, p4, w5.kept o (by simp <;> omega) (by simp <;> omega), ⟨f, by rw [o.2 _ (by simp <;> omega)]; exact w6⟩, w7.kept o (by intro j _ _; simp; omega), p8⟩
theorem kS.w {h h1 : am_H} {i : Nat} {s : aS} (w : kS h s) (b : 39 ≤ h.1) (o : only h h1 [i, i + 1]) (c : wC h1 i 56) (hi : i = 4 ∨ i = 6 ∨ i = 8 ∨ i = 10) : kS h1 s :=
  w.tmp o.gx b (by intro j hj; simp at hj; omega) (w.2.2.2.2.w o c hi)
theorem kS.dv {h h1 : am_H} {s : aS} (w : kS h s) (b : 39 ≤ h.1) (o : only h h1 (dS 15)) (c : wD h1 15) : kS h1 s := by
  refine w.tmp o.gx b (by intro j hj; simp at hj; omega) ?_
  obtain ⟨w1, w2, w3, w4, w5, ⟨f, w6⟩, w7, w8⟩ := w.2.2.2.2
  exact ⟨w1.kept o (by simp) (by simp), w2.kept o (by simp) (by simp), w3.kept o (by simp) (by simp), w4.kept o (by simp) (by simp), w5.kept o (by simp) (by simp), ⟨f, by rw [o.2 _ (by simp)]; exact w6⟩, c, w8.gx o.gx (by omega) (by intro j _ _; simp; omega)⟩
theorem kS.mv {h h1 : am_H} {s : aS} (w : kS h s) (b : 39 ≤ h.1) (o : only h h1 (mS 22)) (c : wM h1 22) : kS h1 s := by
  refine w.tmp o.gx b (by intro j hj; simp at hj; omega) ?_
  obtain ⟨w1, w2, w3, w4, w5, ⟨f, w6⟩, w7, w8⟩ := w.2.2.2.2
  exact ⟨w1.kept o (by simp) (by simp), w2.kept o (by simp) (by simp), w3.kept o (by simp) (by simp), w4.kept o (by simp) (by simp), w5.kept o (by simp) (by simp), ⟨f, by rw [o.2 _ (by simp)]; exact w6⟩, w7.kept o (by intro j _ _; simp; omega), c⟩
/-- more cells -/
theorem kS.gr {h : am_H} {s : aS} (w : kS h s) {n1 : Nat} (b : h.1 ≤ n1) : kS (n1, h.2) s := by
  obtain ⟨w0, ⟨f, w1, wf⟩, w2, w3, w4⟩ := w
  refine ⟨w0, ⟨f, w1, fun i hi => ?_⟩, w2, w3, w4⟩
  obtain ⟨r, e, r1, r2, r3⟩ := wf i hi
  exact ⟨r, e, r1, Nat.lt_of_lt_of_le r2 b, r3⟩
abbrev K39 : List Nat := List.range 39
theorem gx_gr (h : am_H) {n1 : Nat} (b : h.1 ≤ n1) (S : List Nat) : gx h (n1, h.2) S := ⟨b, fun _ _ _ => rfl⟩
def okV (j : Int) : Prop := 0 ≤ j ∧ j < 150
/-- a thrown exception leaves the state as it was -/
def xK (h : am_H) (s : aS) (P : String → Prop) : String → am_H → Prop := fun E h1 => P E ∧ kS h1 s ∧ gx h h1 K39
theorem xK.wk {h h2 : am_H} {s : aS} {P P' : String → Prop} (o : gx h h2 K39) (q : ∀ E, P E → P' E) : ∀ E h1, xK h2 s P E h1 → xK h s P' E h1 := fun E _ w => ⟨q E w.1, w.2.1, o.tr w.2.2⟩
theorem m_fractionAt (l : Launch) (g : am_G) {h : am_H} {s : aS} {j : Int} (hst : l.stackTraces = false) (w : kS h s) (hj : IR j) :
    am_MetX l g yX4_fractionAt (am_W1 yX4_fractionAt cX4_fractionAt 2 (some (.object "KerfFractions$Fraction"))) 7 1 6 [.ref 0, vI j] h (qA fun r h1 => h1 = h ∧ okV j ∧ (r = 34 ∨ 47 ≤ r) ∧ r + 4 < h.1 ∧ fF h r (s.2.1 j.toNat)) (xK h s (fun E => E = am_AIO ∧ ¬ okV j)) := by
  have h0 := w.1
  obtain ⟨f, h1, hf⟩ := w.2.1
  refine am_mkX [some (.ref 0), some (vI j)] 0 hst rfl rfl (by decide +kernel) (fun x hl hg hC hT hTX => ?_)
  refine am_iload1 hC dX4_fractionAt_0 ?_
  refine am_if_lt hC 13 dX4_fractionAt_1 rfl (by omega) (fun c1 => ?_) (fun c1 => ?_)
  · exact am_throw hC hTX tX4_131_197_135 dX4_fractionAt_13 dX4_fractionAt_16 dX4_fractionAt_17 dX4_fractionAt_19 dX4_fractionAt_22 (by decide) (by decide) (by omega) (by omega) (fun n1 hn => ⟨⟨rfl, by unfold okV; omega⟩, w.gr hn, gx_gr h hn _⟩)
  · refine am_iload1 hC dX4_fractionAt_4 ?_
    refine am_aload0 hC dX4_fractionAt_5 ?_
    refine am_getf hC dX4_fractionAt_6 fX4_11 h0 rfl ?_
    refine am_alenR hC dX4_fractionAt_9 h1 ?_
    refine am_icmp_lt hC 23 dX4_fractionAt_10 rfl (by omega) (by omega) (fun c10 => ?_) (fun c10 => ?_)
    · refine am_aload0 hC dX4_fractionAt_23 ?_
      refine am_getf hC dX4_fractionAt_24 fX4_11 h0 rfl ?_
      refine am_iload1 hC dX4_fractionAt_27 ?_
      refine am_aald hC dX4_fractionAt_28 h1 (by omega) (by omega) ?_
      obtain ⟨r, e, r1, r2, r3⟩ := hf j.toNat (by omega)
      rw [e]
      exact am_aret hC hT dX4_fractionAt_29 (by omega) (by omega) ⟨_, rfl, rfl, ⟨by omega, by omega⟩, r1, r2, r3⟩
    · exact am_throw hC hTX tX4_131_197_135 dX4_fractionAt_13 dX4_fractionAt_16 dX4_fractionAt_17 dX4_fractionAt_19 dX4_fractionAt_22 (by decide) (by decide) (by omega) (by omega) (fun n1 hn => ⟨⟨rfl, by unfold okV; omega⟩, w.gr hn, gx_gr h hn _⟩)

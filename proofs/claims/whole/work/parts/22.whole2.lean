/-! Whole: the picture: a number of 0 or more -/
theorem am_up_at (h : am_H) (i : Nat) (e : am_E) : (am_up h i e).2 i = some e := by simp [am_up]
theorem am_up_ne (h : am_H) {i j : Nat} (e : am_E) (q : j ≠ i) : (am_up h i e).2 j = h.2 j := by simp [am_up, q]
theorem am_up_up (h : am_H) (i : Nat) (e e' : am_E) : am_up (am_up h i e) i e' = am_up h i e' := by
  unfold am_up
  congr 1
  funext j
  by_cases q : j = i <;> simp [q]
theorem am_up_self {h : am_H} {i : Nat} {e : am_E} (q : h.2 i = some e) : am_up h i e = h := by
  obtain ⟨n, f⟩ := h
  unfold am_up
  congr 1
  funext j
  by_cases c : j = i
  · subst c; simp only [if_pos]; exact q.symm
  · simp [c]
/-- nothing changed but at S -/
def only (h h1 : am_H) (S : List Nat) : Prop := h1.1 = h.1 ∧ ∀ q, q ∉ S → h1.2 q = h.2 q
theorem only.rf (h : am_H) (S : List Nat) : only h h S := ⟨rfl, fun _ _ => rfl⟩
theorem only.tr {h h1 h2 : am_H} {S : List Nat} (a : only h h1 S) (b : only h1 h2 S) : only h h2 S := ⟨b.1.trans a.1, fun q hq => (b.2 q hq).trans (a.2 q hq)⟩
theorem only.wk {h h1 : am_H} {S S' : List Nat} (a : only h h1 S) (b : ∀ q ∈ S, q ∈ S') : only h h1 S' := ⟨a.1, fun q hq => a.2 q (fun c => hq (b q c))⟩
def wR (h : am_H) (i c n a : Nat) : Prop := a < 2147483648 ^ n ∧ n ≤ c ∧ c ≤ 100000 ∧ ∃ f : Nat → Int, wO h i n c f ∧ ∀ j, j < n → f j = (dg a j : Int)
abbrev wN (h : am_H) (i c a : Nat) : Prop := wR h i c (szn a) a
def wC (h : am_H) (i c : Nat) : Prop := c ≤ 100000 ∧ ∃ (n : Int) (f : Nat → Int), wO h i n c f
theorem wR.cc {h : am_H} {i c n a : Nat} (w : wR h i c n a) : wC h i c := ⟨w.2.2.1, _, w.2.2.2.choose, w.2.2.2.choose_spec.1⟩
theorem wR.o {h : am_H} {i c n a : Nat} (w : wR h i c n a) : h.2 i = some (eO 3 [.ref (i + 1), vI n]) := w.2.2.2.choose_spec.1.1
theorem wC.o {h : am_H} {i c : Nat} (w : wC h i c) : ∃ n : Int, h.2 i = some (eO 3 [.ref (i + 1), vI n]) := ⟨_, w.2.choose_spec.choose_spec.1⟩
theorem wR.n {h : am_H} {i c n a : Nat} (w : wR h i c n a) : n ≤ 100000 := Nat.le_trans w.2.1 w.2.2.1
theorem wR.lv {h : am_H} {i c n a : Nat} (w : wR h i c n a) (k : Nat) : LV h i (k : Int) (dg a k : Int) := by
  have hn := w.n
  obtain ⟨h1, h2, h3, f, h4, h5⟩ := w
  refine ⟨_, c, f, h4, by omega, h3, ?_⟩
  by_cases q : k < n
  · rw [if_pos (by omega), Int.toNat_natCast]
    exact h5 k q
  · rw [if_neg (by omega), dg_out (Nat.le_trans (szn_le.mpr h1) (by omega))]
    rfl
theorem wR.lv0 {h : am_H} {i c n a : Nat} (w : wR h i c n a) {j : Int} (hj : j < 0) : LV h i j 0 := by
  have hn := w.n
  obtain ⟨h1, h2, h3, f, h4, h5⟩ := w
  exact ⟨_, c, f, h4, by omega, h3, if_neg (by omega)⟩
theorem wO.ne {h : am_H} {i j : Nat} {n m : Int} {c d : Nat} {f f' : Nat → Int} (a : wO h i n c f) (b : wO h j m d f') (q : i ≠ j) : i ≠ j + 1 ∧ i + 1 ≠ j ∧ i + 1 ≠ j + 1 := by
  refine ⟨fun e => ?_, fun e => ?_, by omega⟩
  · have h1 := a.1
    rw [e, b.2] at h1
    cases h1
  · have h1 := b.1
    rw [← e, a.2] at h1
    cases h1
theorem wR.kept {h h1 : am_H} {i c n a : Nat} {S : List Nat} (w : wR h i c n a) (o : only h h1 S) (q1 : i ∉ S) (q2 : i + 1 ∉ S) : wR h1 i c n a := by
  obtain ⟨h1, h2, h3, f, h4, h5⟩ := w
  exact ⟨h1, h2, h3, f, ⟨by rw [o.2 _ q1]; exact h4.1, by rw [o.2 _ q2]; exact h4.2⟩, h5⟩
theorem wC.kept {h h1 : am_H} {i c : Nat} {S : List Nat} (w : wC h i c) (o : only h h1 S) (q1 : i ∉ S) (q2 : i + 1 ∉ S) : wC h1 i c := by
  obtain ⟨h1, n, f, h4⟩ := w
  exact ⟨h1, n, f, by rw [o.2 _ q1]; exact h4.1, by rw [o.2 _ q2]; exact h4.2⟩
theorem wC.up {h : am_H} {t c : Nat} {n : Int} {f f' : Nat → Int} (w : wO h t n c f) : wO (am_up h (t + 1) (eL c f')) t n c f' := ⟨by rw [am_up_ne _ _ (by omega)]; exact w.1, am_up_at _ _ _⟩
/-- two Wholes that aren't one are apart -/
theorem wC.apart {h : am_H} {x t c d : Nat} (a : wC h x c) (b : wC h t d) (q : x ≠ t) : x ∉ [t, t + 1] ∧ x + 1 ∉ [t, t + 1] := by
  obtain ⟨_, _, _, a⟩ := a
  obtain ⟨_, _, _, b⟩ := b
  have := wO.ne a b q
  constructor <;> simp <;> omega
theorem wR.off {h : am_H} {x t c n a d : Nat} {H : am_H} (w : wR h x c n a) (b : wC h t d) (q : x ≠ t) (o : only h H [t, t + 1]) : wR H x c n a :=
  w.kept o (wC.apart w.cc b q).1 (wC.apart w.cc b q).2
/-- a limb not yet written over -/
theorem LV.mid {h H : am_H} {x cx n a t c k : Nat} {n0 : Int} {f0 fk : Nat → Int} (w : wR h x cx n a) (b : wO h t n0 c f0) (hc : c ≤ 100000) (h1 : H.2 t = h.2 t) (h2 : H.2 (t + 1) = some (eL c fk)) (h3 : ∀ q, q ≠ t → q ≠ t + 1 → H.2 q = h.2 q) (ag : ∀ j, k ≤ j → fk j = f0 j) : LV H x (k : Int) (dg a k : Int) := by
  by_cases q : x = t
  · subst q
    have hn := w.n
    obtain ⟨g1, g2, g3, f, g4, g5⟩ := w
    have e1 := g4.1.symm.trans b.1
    have e2 := g4.2.symm.trans b.2
    simp only [Option.some.injEq, Sum.inr.injEq, Sum.inl.injEq, Prod.mk.injEq] at e2
    obtain ⟨rfl, rfl⟩ := e2
    refine ⟨(n : Int), cx, fk, ⟨by rw [h1]; exact g4.1, h2⟩, by omega, g3, ?_⟩
    by_cases r : k < n
    · rw [if_pos (by omega), Int.toNat_natCast, ag k (Nat.le_refl _)]
      exact g5 k r
    · rw [if_neg (by omega), dg_out (Nat.le_trans (szn_le.mpr g1) (by omega))]
      rfl
  · have o : only h (h.1, H.2) [t, t + 1] := ⟨rfl, fun r hr => h3 r (fun e => hr (by simp [e])) (fun e => hr (by simp [e]))⟩
    have hl := (wR.off w ⟨hc, _, _, b⟩ q o).lv k
    exact hl
theorem wN.fin {h : am_H} {t c r : Nat} {n0 : Int} {f0 fk : Nat → Int} (b : wO h t n0 c f0) (hc : c ≤ 100000) (hr : szn r ≤ c) (hf : ∀ j, j < szn r → fk j = (dg r j : Int)) : wN (am_up (am_up h (t + 1) (eL c fk)) t (eO 3 [.ref (t + 1), vI (szn r : Int)])) t c r ∧ only h (am_up (am_up h (t + 1) (eL c fk)) t (eO 3 [.ref (t + 1), vI (szn r : Int)])) [t, t + 1] := by
  refine ⟨⟨lt_pow_szn r, hr, hc, fk, ⟨am_up_at _ _ _, by rw [am_up_ne _ _ (by omega)]; exact am_up_at _ _ _⟩, hf⟩, rfl, fun q hq => ?_⟩
  have h1 : q ≠ t := fun e => hq (by simp [e])
  have h2 : q ≠ t + 1 := fun e => hq (by simp [e])
  rw [am_up_ne _ _ h1, am_up_ne _ _ h2]
theorem am_fu_lt {f : Nat → Int} {k j : Nat} {v : Int} (h : j ≠ k) : am_fu f k v j = f j := by simp [am_fu, h]
theorem am_fu_at {f : Nat → Int} {k : Nat} {v : Int} : am_fu f k v k = v := by simp [am_fu]
/-- .. its object too by a settle at the end -/
theorem w_set (l : Launch) {x : am_X} {cc : ByteArray} {own : String} {n mc ms : Nat} (hC : am_C x cc own n mc ms) {pc k z : Nat} {h : am_H} {ls : List (Option Value)} {st : List Value} {idx t c r : Nat} {n0 u : Int} {f0 fk : Nat → Int} (d : decode cc pc = .ok (.invokevirtual idx, 3)) (hK : am_KV own idx yX3_settle cX3_settle 3 none 1) (b : wO h t n0 c f0) (hc : c ≤ 100000) (hu : 0 ≤ u ∧ u ≤ c) (ha : r < 2147483648 ^ u.toNat) (hf : ∀ j : Nat, j < u.toNat → fk j = (dg r j : Int)) (hst : (st.map fun v => v.category).sum ≤ 8) (hn : 3 ≤ n) (hk : k ≤ mc) (hz : z ≤ ms)
    (kk : ∀ h1 : am_H, wN h1 t c r → only h h1 [t, t + 1] → am_W x (pc + 3) k z h1 ls st) : am_W x pc k z (am_up h (t + 1) (eL c fk)) ls (vI u :: .ref t :: st) := by
  have hr := szn_le.mpr ha
  have b2 := wC.up (f' := fk) b
  refine am_V1_qN hC 3 d hK (m_settle _ _ b2 hc (by omega) u.toNat (by omega) ha hf) b2.1 rfl hst hn hk hz (fun h1 q => ?_)
  subst q
  have w := wN.fin (fk := fk) (r := r) b hc (by omega) (fun j hj => hf j (by omega))
  exact kk _ w.1 w.2

/-! a Whole of a long -/
theorem m_Wof (l : Launch) (g : am_G) {h : am_H} {v : Int} (hv : -9223372036854775808 ≤ v ∧ v ≤ 9223372036854775807) (hz : szn v.natAbs ≤ 3) :
    am_Met l g yX3_of (am_W1 yX3_of cX3_of 3 (some (.object "KerfFractions$Whole"))) 4 2 5 [vL v] h (qA fun i h3 => i = h.1 ∧ grown h h3 2 ∧ wN h3 h.1 3 v.natAbs) := by
  refine am_mk [some (vL v), none, none] 1 rfl rfl (by decide +kernel) (fun x hl hg hC hT _ => ?_)
  obtain ⟨h1, e1⟩ : ∃ h1, h1 = am_push h (eO 3 [.null, vI 0]) := ⟨_, rfl⟩
  have h01 : h1.2 h.1 = some (eO 3 [.null, vI 0]) := by subst e1; exact am_push_at _ _
  have s1 : h1.1 = h.1 + 1 := by subst e1; rfl
  obtain ⟨h2, e2⟩ : ∃ h2, h2 = am_up (am_push h1 (eL 3 (fun _ => 0))) h.1 (eO 3 [.ref h1.1, vI 0]) := ⟨_, rfl⟩
  have s2 : h2.1 = h.1 + 2 := by subst e2; show h1.1 + 1 = _; omega
  have g2 : ∀ q, q < h.1 → h2.2 q = h.2 q := by
    intro q hq
    subst e2
    rw [am_up_ne _ _ (by omega), am_push_ne _ _ (by omega)]
    subst e1
    rw [am_push_ne _ _ (by omega)]
  have wt : wC h2 h.1 3 := by
    refine ⟨by decide, 0, fun _ => 0, ?_, ?_⟩
    · subst e2; rw [am_up_at, s1]
    · subst e2; rw [am_up_ne _ _ (by omega), ← s1]; exact am_push_at _ _
  obtain ⟨n2, ho2⟩ := wt.o
  refine am_new hC (ci := 3) (RX3, TX3, 2) tyX3 [.null, vI 0] dX3_of_0 rfl tyX3_ok nf3 nX3_1.1 nX3_1.2.1 nX3_1.2.2 (by omega) (by show _ + 2 ≤ _; omega) ?_
  rw [← e1]
  show am_W x _ (0 + 1) (0 + 2) _ _ _
  refine am_dup hC dX3_of_3 rfl ?_
  refine am_iconst hC dX3_of_4 ?_
  refine am_I1_qN hC dX3_of_5 kX3_19 (m_Winit (room := 3) _ _ h01 (by omega) (by decide)) (Nat.le_of_ble_eq_true rfl) (by decide) (by omega) (by omega) (fun h2' q => ?_)
  have q2 : h2' = h2 := q.trans e2.symm
  clear q
  subst q2
  refine am_astore2 hC dX3_of_8 rfl ?_
  refine am_aload2 hC dX3_of_9 ?_
  refine am_lload0 hC dX3_of_10 ?_
  refine am_V1_qN hC 3 dX3_of_11 kX3_22 (m_setMagnitude _ _ wt hv hz) ho2 rfl (Nat.le_of_ble_eq_true rfl) (by decide) (by omega) (by omega) (fun h3 q => ?_)
  refine am_aload2 hC dX3_of_14 ?_
  exact am_aret hC hT dX3_of_15 (by omega) (by omega) ⟨_, rfl, rfl, ⟨by rw [q.2.1, s2], fun r hr => by rw [q.2.2 r (by simp; omega)]; exact g2 r hr⟩, q.1⟩
/-! Fraction's and Measure's constructors -/
theorem m_FinitG (l : Launch) (g : am_G) {h : am_H} {f n t b ct cb x y : Nat} {s : Int} (h0 : h.2 f = some (eO 1 [vI 0, .null, .null])) (hd : h.1 = n) (hf : f < n) (wt : wN h t ct x) (wb : wN h b cb y) (zx : szn x ≤ 56) (zy : szn y ≤ 56) :
    am_Met l g yX1_init (am_W1 yX1_init cX1_init 4 none) 5 4 116 [.ref f, vI s, .ref t, .ref b] h (qN fun h1 => h1.1 = n + 4 ∧ h1.2 f = some (eO 1 [vI s, .ref n, .ref (n + 2)]) ∧ wN h1 n (szn x) x ∧ wN h1 (n + 2) (szn y) y ∧ gx h h1 [f]) := by
  refine am_mk [some (.ref f), some (vI s), some (.ref t), some (.ref b)] 0 rfl rfl (by decide +kernel) (fun z hl hg hC hT hin => ?_)
  refine am_okI (fun ok => ?_)
  have bt : t + 1 < h.1 := ok _ _ wt.2.2.2.choose_spec.1.2
  have bb : b + 1 < h.1 := ok _ _ wb.2.2.2.choose_spec.1.2
  have ft : t ≠ f := fun e => by have := wt.o; rw [e, h0] at this; cases this
  have ft' : t + 1 ≠ f := fun e => by have := wt.2.2.2.choose_spec.1.2; rw [e, h0] at this; cases this
  have fb' : b + 1 ≠ f := fun e => by have := wb.2.2.2.choose_spec.1.2; rw [e, h0] at this; cases this
  have fb : b ≠ f := fun e => by have := wb.o; rw [e, h0] at this; cases this
  refine am_aload0 hC dX1_init_0 ?_
  refine am_objInit hC dX1_init_1 oX1_1 (by decide) (by decide) ?_
  refine am_aload0 hC dX1_init_4 ?_
  refine am_iload1 hC dX1_init_5 ?_
  refine am_putf hC dX1_init_6 pX1_7 (fun _ => hin rfl) h0 (am_fitI _) (Nat.le_of_ble_eq_true rfl) ?_
  refine am_heap (fun h1 e1 => ?_)
  have g1 : gx h h1 [f] := by rw [e1]; exact gx_up _ _ _
  have h10 : h1.2 f = some (eO 1 ([vI 0, .null, .null].set 0 (vI s))) := by rw [e1]; exact am_up_at _ _ _
  have s1 : h1.1 = n := by rw [e1]; exact hd
  clear e1
  have wt1 := wt.gx g1 bt (by simp <;> omega) (by simp <;> omega)
  have wb1 := wb.gx g1 bb (by simp <;> omega) (by simp <;> omega)
  refine am_aload0 hC dX1_init_9 ?_
  refine am_aload2 hC dX1_init_10 ?_
  refine am_S1_qA hC dX1_init_11 kX1_13 (m_copyOf _ _ wt1 zx) (Nat.le_of_ble_eq_true rfl) (by decide) (by omega) (by omega) (fun r h2 q => ?_)
  obtain ⟨rfl, q1, w2⟩ := q
  have g2 : gx h1 h2 [f] := ⟨by have := q1.1; omega, fun r q2 _ => q1.2 r q2⟩
  have h20 := h10
  rw [← q1.2 f (by omega)] at h20
  have wb2 := wb1.gx g2 (by omega) (by simp <;> omega) (by simp <;> omega)
  have s2 := q1.1
  rw [s1] at w2 s2 ⊢
  refine am_putf hC dX1_init_14 pX1_19 (fun _ => hin rfl) h20 (am_fitO _ _) (Nat.le_of_ble_eq_true rfl) ?_
  refine am_heap (fun h3 e3 => ?_)
  have g3 : gx h2 h3 [f] := by rw [e3]; exact gx_up _ _ _
  have h30 : h3.2 f = some (eO 1 (([vI 0, .null, .null].set 0 (vI s)).set 1 (.ref n))) := by rw [e3]; exact am_up_at _ _ _
  have s3 : h3.1 = n + 2 := by rw [e3]; exact s2
  clear e3
  have w3 := w2.gx g3 (by omega) (by simp <;> omega) (by simp <;> omega)
  have wb3 := wb2.gx g3 (by omega) (by simp <;> omega) (by simp <;> omega)
  refine am_aload0 hC dX1_init_17 ?_
  refine am_aload3 hC dX1_init_18 ?_
  refine am_S1_qA hC dX1_init_19 kX1_13 (m_copyOf _ _ wb3 zy) (Nat.le_of_ble_eq_true rfl) (by decide) (by omega) (by omega) (fun r h4 q => ?_)
  obtain ⟨rfl, q1, w4⟩ := q
  have g4 : gx h3 h4 [f] := ⟨by have := q1.1; omega, fun r q2 _ => q1.2 r q2⟩
  have h40 := h30
  rw [← q1.2 f (by omega)] at h40
  have w3' := w3.gx g4 (by omega) (by simp <;> omega) (by simp <;> omega)
  have s4 := q1.1
  rw [s3] at w4 s4 ⊢
  refine am_putf hC dX1_init_22 pX1_23 (fun _ => hin rfl) h40 (am_fitO _ _) (Nat.le_of_ble_eq_true rfl) ?_
  refine am_heap (fun h5 e5 => ?_)
  have g5 : gx h4 h5 [f] := by rw [e5]; exact gx_up _ _ _
  have h50 : h5.2 f = some (eO 1 [vI s, .ref n, .ref (n + 2)]) := by rw [e5]; exact am_up_at _ _ _
  have s5 : h5.1 = n + 4 := by rw [e5]; exact s4
  clear e5
  exact am_vret hC hT dX1_init_25 (by omega) (by omega) ⟨rfl, s5, h50, w3'.gx g5 (by omega) (by simp <;> omega) (by simp <;> omega), w4.gx g5 (by omega) (by simp <;> omega) (by simp <;> omega), g1.tr (g2.tr (g3.tr (g4.tr g5)))⟩
theorem m_Finit (l : Launch) (g : am_G) {h : am_H} {f t b ct cb x y : Nat} {s : Int} (h0 : h.2 f = some (eO 1 [vI 0, .null, .null])) (hd : h.1 = f + 1) (wt : wN h t ct x) (wb : wN h b cb y) (zx : szn x ≤ 56) (zy : szn y ≤ 56) :
    am_Met l g yX1_init (am_W1 yX1_init cX1_init 4 none) 5 4 116 [.ref f, vI s, .ref t, .ref b] h (qN fun h1 => h1.1 = f + 5 ∧ h1.2 f = some (eO 1 [vI s, .ref (f + 1), .ref (f + 3)]) ∧ wN h1 (f + 1) (szn x) x ∧ wN h1 (f + 3) (szn y) y ∧ gx h h1 [f]) :=
  m_FinitG (n := f + 1) l g h0 hd (Nat.lt_succ_self f) wt wb zx zy
theorem nf0 : ∀ (b j : Nat), j < 3 → defaultValue (tyX0 j) = vp_V ([Value.null, .null, .null].map (am_c b)) j := fun b j hj => by
  match j, hj with
  | 0, _ => rfl
  | 1, _ => rfl
  | 2, _ => rfl
theorem m_Minit (l : Launch) (g : am_G) {h : am_H} {mv : Nat} (h0 : h.2 mv = some (eO 2 [.null, .null, .null, vL 0, vL 0, vL 0, vL 0])) (hd : h.1 = mv + 1) :
    am_Met l g yX2_init (am_W1 yX2_init cX2_init 1 none) 4 11 400 [.ref mv] h (qN fun h1 => h1.1 = mv + 12 ∧ wM h1 mv ∧ gx h h1 [mv]) := by
  refine am_mk [some (.ref mv)] 0 rfl rfl (by decide +kernel) (fun z hl hg hC hT hin => ?_)
  refine am_aload0 hC dX2_init_0 ?_
  refine am_objInit hC dX2_init_1 oX2_3 (by decide) (by decide) ?_
  refine am_aload0 hC dX2_init_4 ?_
  refine am_new hC (ci := 0) (RX0, TX0, 3) tyX0 [.null, .null, .null] dX2_init_5 rfl tyX0_ok nf0 nX2_9.1 nX2_9.2.1 nX2_9.2.2 (by omega) (by show _ + 3 ≤ _; omega) ?_
  show am_W z _ (0 + 1) (0 + 3) _ _ _
  refine am_heap (fun h1 e1 => ?_)
  have g1 : gx h h1 [] := by rw [e1]; exact gx_push _ _ _
  have h10 : h1.2 (mv + 1) = some (eO 0 [.null, .null, .null]) := by rw [e1, ← hd]; exact am_push_at _ _
  have s1 : h1.1 = mv + 2 := by rw [e1]; show h.1 + 1 = _; omega
  rw [hd]
  clear e1
  refine am_dup hC dX2_init_8 rfl ?_
  refine am_I0_qN hC dX2_init_9 kX2_11 (m_Dinit _ _ h10 (by omega)) (Nat.le_of_ble_eq_true rfl) (by decide) (by omega) (by omega) (fun h2 q => ?_)
  obtain ⟨s2, d2, g2⟩ := q
  have h20 : h2.2 mv = some (eO 2 [.null, .null, .null, vL 0, vL 0, vL 0, vL 0]) := by rw [g2.2 mv (by omega) (by simp), g1.2 mv (by omega) (by simp)]; exact h0
  refine am_putf hC dX2_init_12 pX2_12 (fun _ => hin rfl) h20 (am_fitO _ _) (Nat.le_of_ble_eq_true rfl) ?_
  refine am_heap (fun h3 e3 => ?_)
  have g3 : gx h2 h3 [mv] := by rw [e3]; exact gx_up _ _ _
  have h30 : h3.2 mv = some (eO 2 ([.null, .null, .null, vL 0, vL 0, vL 0, vL 0].set 0 (.ref (mv + 1)))) := by rw [e3]; exact am_up_at _ _ _
  have s3 : h3.1 = mv + 8 := by rw [e3]; exact s2
  clear e3
  have d3 := d2.gx g3 (by omega) (by intro j _ _; simp; omega)
  have g03 : gx h h3 [mv] := (g1.wk (by simp)).cut ((g2.wk (S' := [mv + 1, mv]) (by simp)).tr (g3.wk (by simp))) (by simp; omega)
  refine am_aload0 hC dX2_init_15 ?_
  refine am_new hC (ci := 3) (RX3, TX3, 2) tyX3 [.null, vI 0] dX2_init_16 rfl tyX3_ok nf3 nX2_1.1 nX2_1.2.1 nX2_1.2.2 (by omega) (by show _ + 2 ≤ _; omega) ?_
  show am_W z _ (0 + 1 + 6 + 1) (0 + 3 + 174 + 2) _ _ _
  refine am_dup hC dX2_init_19 rfl ?_
  refine am_bipush hC dX2_init_20 rfl ?_
  refine am_I1_qN hC dX2_init_22 kX2_18 (m_Winit (room := 56) _ _ (am_push_at _ _) (Nat.lt_succ_self _) (by decide)) (Nat.le_of_ble_eq_true rfl) (by decide) (by omega) (by omega) (fun h4 q => ?_)
  have h40 := h30
  rw [← show h4.2 mv = h3.2 mv by rw [q, am_up_ne _ _ (by omega), am_push_ne _ _ (by show mv ≠ h3.1 + 1; omega), am_push_ne _ _ (by omega)]] at h40
  refine am_putf hC dX2_init_25 pX2_21 (fun _ => hin rfl) h40 (am_fitO _ _) (Nat.le_of_ble_eq_true rfl) ?_
  refine am_heap (fun h5 e3 => ?_)
  have n5 := newWp (by omega) (by decide) q e3
  clear e3 q
  have s5 := n5.1
  rw [s3] at n5 s5
  refine am_aload0 hC dX2_init_28 ?_
  refine am_new hC (ci := 3) (RX3, TX3, 2) tyX3 [.null, vI 0] dX2_init_29 rfl tyX3_ok nf3 nX2_1.1 nX2_1.2.1 nX2_1.2.2 (by omega) (by show _ + 2 ≤ _; omega) ?_
  show am_W z _ (0 + 1 + 6 + 1 + 1 + 1) (0 + 3 + 174 + 2 + 56 + 2) _ _ _
  refine am_dup hC dX2_init_32 rfl ?_
  refine am_bipush hC dX2_init_33 rfl ?_
  refine am_I1_qN hC dX2_init_35 kX2_18 (m_Winit (room := 56) _ _ (am_push_at _ _) (Nat.lt_succ_self _) (by decide)) (Nat.le_of_ble_eq_true rfl) (by decide) (by omega) (by omega) (fun h6 q => ?_)
  have h60 := n5.2.1
  rw [← show h6.2 mv = h5.2 mv by rw [q, am_up_ne _ _ (by omega), am_push_ne _ _ (by show mv ≠ h5.1 + 1; omega), am_push_ne _ _ (by omega)]] at h60
  refine am_putf hC dX2_init_38 pX2_25 (fun _ => hin rfl) h60 (am_fitO _ _) (Nat.le_of_ble_eq_true rfl) ?_
  refine am_heap (fun h7 e3 => ?_)
  have n7 := newWp (by omega) (by decide) q e3
  clear e3 q
  have s7 := n7.1
  rw [s5] at n7 s7
  have g37 : gx h3 h7 [mv] := n5.2.2.2.tr n7.2.2.2
  exact am_vret hC hT dX2_init_41 (by omega) (by omega) ⟨rfl, by omega, ⟨⟨0, 0, 0, 0, n7.2.1⟩, d3.gx g37 (by omega) (by intro j _ _; simp; omega), (n5.2.2.1.gx n7.2.2.2 (by omega) (by simp <;> omega) (by simp <;> omega)).cc, n7.2.2.1.cc⟩, g03.tr g37⟩

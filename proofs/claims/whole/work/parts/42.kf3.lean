/-! KerfFractions: its state and its constructor -/
abbrev aV := Int × Nat × Nat
/-- how many values are put, which; how many roots are used, the ends; how many weights are told, which -/
abbrev aS := Nat × (Nat → aV) × Nat × (Nat → Int) × Nat × (Nat → Int)
def kO (n rt tw : Int) : am_E := eO 4 [.ref 1, .ref 2, vI n, .ref 11, vI rt, .ref 12, vI tw, .ref 13, .ref 15, .ref 17, .ref 19, .ref 21, .ref 23, .ref 24, .ref 31]
/-- where a Fraction's parts lie, its last cell: the zero's stand at 7 and 9, the others' right behind it -/
def fpT (f : Nat) : Nat := if f < 10 then 7 else f + 1
def fpB (f : Nat) : Nat := if f < 10 then 9 else f + 3
def fpE (f : Nat) : Nat := if f < 10 then 10 else f + 4
theorem fp_r (f : Nat) : (f < 10 ∧ fpT f = 7 ∧ fpB f = 9 ∧ fpE f = 10) ∨ (10 ≤ f ∧ fpT f = f + 1 ∧ fpB f = f + 3 ∧ fpE f = f + 4) := by
  unfold fpT fpB fpE
  by_cases c : f < 10
  · rw [if_pos c, if_pos c, if_pos c]; exact Or.inl ⟨c, rfl, rfl, rfl⟩
  · rw [if_neg c, if_neg c, if_neg c]; exact Or.inr ⟨by omega, rfl, rfl, rfl⟩
def fF (h : am_H) (f : Nat) (v : aV) : Prop := h.2 f = some (eO 1 [vI v.1, .ref (fpT f), .ref (fpB f)]) ∧ wN h (fpT f) (szn v.2.1) v.2.1 ∧ wN h (fpB f) (szn v.2.2) v.2.2
def kV (h : am_H) (V : Nat → aV) : Prop := ∃ f : Nat → Option Nat, h.2 1 = some (eR 150 f) ∧ ∀ i, i < 150 → ∃ r, (f i = some r ∨ (f i = none ∧ r = 2)) ∧ ((r = 2 ∧ fpT r = 7 ∧ fpB r = 9) ∨ (51 ≤ r ∧ 51 ≤ fpT r ∧ 51 ≤ fpB r)) ∧ fpE r < h.1 ∧ fF h r (V i)
def kT (h : am_H) : Prop := wC h 15 56 ∧ wC h 17 56 ∧ wC h 19 56 ∧ wC h 21 56 ∧ wN h 13 3 1 ∧ (∃ f, h.2 23 = some (eI 243 f)) ∧ wD h 24 ∧ wM h 31
def kS (h : am_H) (s : aS) : Prop := h.2 0 = some (kO s.1 s.2.2.1 s.2.2.2.2.1) ∧ kV h s.2.1 ∧ h.2 11 = some (eI 80 s.2.2.2.1) ∧ h.2 12 = some (eL 32 s.2.2.2.2.2) ∧ kT h
def s0 : aS := (0, fun _ => (0, 0, 1), 0, fun _ => 0, 0, fun _ => 0)
theorem fF.gx {h h1 : am_H} {S : List Nat} {f : Nat} {v : aV} (w : fF h f v) (o : gx h h1 S) (b : fpE f < h.1) (q : ∀ j, (j = f ∨ (7 ≤ j ∧ j ≤ 10) ∨ (10 ≤ f ∧ f < j ∧ j ≤ f + 4)) → 0 ≤ j → j ∉ S) : fF h1 f v := by
  obtain ⟨w1, w2, w3⟩ := w
  have r := fp_r f
  exact ⟨by rw [o.2 _ (by omega) (q _ (by omega) (by omega))]; exact w1, w2.gx o (by omega) (q _ (by omega) (by omega)) (q _ (by omega) (by omega)), w3.gx o (by omega) (q _ (by omega) (by omega)) (q _ (by omega) (by omega))⟩
theorem fp_in {r : Nat} (h : r = 2 ∨ 51 ≤ r) : ((r = 2 ∧ fpT r = 7 ∧ fpB r = 9) ∨ (51 ≤ r ∧ 51 ≤ fpT r ∧ 51 ≤ fpB r)) := by
  have := fp_r r
  omega
theorem kT.gx {h h1 : am_H} {S : List Nat} (w : kT h) (o : gx h h1 S) (b : 43 ≤ h.1) (q : ∀ j, 13 ≤ j → j < 43 → j ∉ S) : kT h1 := by
  obtain ⟨w1, w2, w3, w4, w5, ⟨f, w6⟩, w7, w8⟩ := w
  exact ⟨w1.gx o (by omega) (q _ (by omega) (by omega)) (q _ (by omega) (by omega)), w2.gx o (by omega) (q _ (by omega) (by omega)) (q _ (by omega) (by omega)), w3.gx o (by omega) (q _ (by omega) (by omega)) (q _ (by omega) (by omega)), w4.gx o (by omega) (q _ (by omega) (by omega)) (q _ (by omega) (by omega)), w5.gx o (by omega) (q _ (by omega) (by omega)) (q _ (by omega) (by omega)), ⟨f, by rw [o.2 _ (by omega) (q _ (by omega) (by omega))]; exact w6⟩, w7.gx o (by omega) (fun j a b => q j (by omega) (by omega)), w8.gx o (by omega) (fun j a b => q j (by omega) (by omega))⟩
theorem nX4_9f : Cond.classLink RX4 9 RX1 ∈ am_ws ∧ Cond.instantiable RX1 3 ∈ am_ws ∧ Cond.initialized RX1 ∈ am_ws := ⟨nX4_9, am_in (List.mem_of_getElem? (i := 67) (by decide +kernel)) rfl, am_in (List.mem_of_getElem? (i := 41) (by decide +kernel)) rfl⟩
theorem nf1 : ∀ (b j : Nat), j < 3 → defaultValue (tyX1 j) = vp_V ([vI 0, .null, .null].map (am_c b)) j := fun b j hj => by
  match j, hj with
  | 0, _ => rfl
  | 1, _ => rfl
  | 2, _ => rfl
theorem nf2 : ∀ (b j : Nat), j < 7 → defaultValue (tyX2 j) = vp_V ([Value.null, .null, .null, vL 0, vL 0, vL 0, vL 0].map (am_c b)) j := fun b j hj => by
  match j, hj with
  | 0, _ => rfl
  | 1, _ => rfl
  | 2, _ => rfl
  | 3, _ => rfl
  | 4, _ => rfl
  | 5, _ => rfl
  | 6, _ => rfl
theorem am_wz {x : am_X} {pc k z : Nat} {h : am_H} {ls : List (Option Value)} {st : List Value} {α β : Type} {a : α} {b : β} {c : Nat} (kk : am_W x pc k (z + c) h ls st) : am_W x pc k (z + (a, b, c).2.2) h ls st := kk
theorem newQp {h h3 : am_H} {o : Nat} {e E : am_E} (ho : o < h.1) (e3 : h3 = am_up (am_push h e) o E) : h3.1 = h.1 + 1 ∧ h3.2 o = some E ∧ h3.2 h.1 = some e ∧ gx h h3 [o] := by
  subst e3
  exact ⟨rfl, am_up_at _ _ _, by rw [am_up_ne _ _ (by omega)]; exact am_push_at _ _, (gx_push h e [o]).tr (gx_up _ _ _)⟩
theorem grown.gx {h h1 : am_H} {k : Nat} (w : grown h h1 k) (S : List Nat) : gx h h1 S := ⟨by have := w.1; omega, fun r q _ => w.2 r q⟩
theorem m_Kinit (l : Launch) (g : am_G) {h : am_H} (h0 : h.2 0 = some (eO 4 [.null, .null, vI 0, .null, vI 0, .null, vI 0, .null, .null, .null, .null, .null, .null, .null, .null])) (hd : h.1 = 1) :
    am_Met l g yX4_init (am_W1 yX4_init cX4_init 1 none) 6 60 2000 [.ref 0] h (qN fun h1 => h1.1 = 43 ∧ kS h1 s0) := by
  have z0 : szn (Int.natAbs 0) ≤ 3 := szn_le.mpr (by decide)
  have z1 : szn (Int.natAbs 1) ≤ 3 := szn_le.mpr (by decide)
  have y0 : szn 0 ≤ 56 := szn_le.mpr (by decide)
  have y1 : szn 1 ≤ 56 := szn_le.mpr (by decide)
  refine am_mk [some (.ref 0)] 0 rfl rfl (by decide +kernel) (fun z hl hg hC hT hin => ?_)
  refine am_aload0 hC dX4_init_0 ?_
  refine am_objInit hC dX4_init_1 oX4_1 (by decide) (by decide) ?_
  refine am_aload0 hC dX4_init_4 ?_
  refine am_sipush hC dX4_init_5 rfl ?_
  refine am_newR hC 150 dX4_init_8 nX4_9 rfl (by decide) (by omega) (by omega) ?_
  have k11 : (am_push h (eR 150 (fun _ => none))).2 0 = some (eO 4 ([.null, .null, vI 0, .null, vI 0, .null, vI 0, .null, .null, .null, .null, .null, .null, .null, .null])) := by rw [am_push_ne _ _ (by omega)]; exact h0
  rw [hd]
  refine am_putf hC dX4_init_11 pX4_11 (fun _ => hin rfl) k11 (am_fitA _ _) (Nat.le_of_ble_eq_true rfl) ?_
  refine am_heap (fun h1 e => ?_)
  have n1 := newQp (by omega) e
  clear e
  rw [hd] at n1
  have s1 : h1.1 = 2 := n1.1
  have F1 := n1.2.1
  have a1 := n1.2.2.1
  have g1 := n1.2.2.2
  refine am_aload0 hC dX4_init_14 ?_
  refine am_new hC (ci := 1) (RX1, TX1, 3) tyX1 [vI 0, .null, .null] dX4_init_15 rfl tyX1_ok nf1 nX4_9f.1 nX4_9f.2.1 nX4_9f.2.2 (by omega) (by show _ + 3 ≤ _; omega) ?_
  refine am_wz ?_
  refine am_heap (fun q1 e => ?_)
  have p1 : q1.2 2 = some (eO 1 [vI 0, .null, .null]) := by rw [e]; show (am_push h1 _).2 2 = _; rw [← s1]; exact am_push_at _ _
  have t1 : q1.1 = 3 := by rw [e]; show h1.1 + 1 = _; omega
  have c1 : gx h1 q1 [] := by rw [e]; exact gx_push _ _ _
  rw [s1]
  clear e
  refine am_dup hC dX4_init_18 rfl ?_
  refine am_iconst hC dX4_init_19 ?_
  refine am_lconst0 hC dX4_init_20 ?_
  refine am_S1_qA hC dX4_init_21 kX4_15 (m_Wof (v := 0) _ _ (by omega) z0) (Nat.le_of_ble_eq_true rfl) (by decide) (by omega) (by omega) (fun r q2 q => ?_)
  obtain ⟨er, d2, w2⟩ := q
  rw [t1] at er w2
  subst er
  have t2 : q2.1 = 5 := by rw [d2.1, t1]
  have w2 : wN q2 3 3 0 := w2
  have p2 := (d2.2 2 (by omega)).trans p1
  refine am_lconst1 hC dX4_init_24 ?_
  refine am_S1_qA hC dX4_init_25 kX4_15 (m_Wof (v := 1) _ _ (by omega) z1) (Nat.le_of_ble_eq_true rfl) (by decide) (by omega) (by omega) (fun r q3 q => ?_)
  obtain ⟨er, d3, w3⟩ := q
  rw [t2] at er w3
  subst er
  have t3 : q3.1 = 7 := by rw [d3.1, t2]
  have w3 : wN q3 5 3 1 := w3
  have p3 := (d3.2 2 (by omega)).trans p2
  have w2 := w2.gr d3.2 (by omega)
  refine am_I3_qN hC dX4_init_28 kX4_21 (m_FinitG (f := 2) (n := 7) (s := 0) (x := 0) (y := 1) _ _ p3 t3 (by decide) w2 w3 y0 y1) (Nat.le_of_ble_eq_true rfl) (by decide) (by omega) (by omega) (fun q4 q => ?_)
  obtain ⟨t4, f1, f2, f3, d4⟩ := q
  have k31 : q4.2 0 = h1.2 0 := by rw [d4.2 0 (by omega) (by simp), d3.2 0 (by omega), d2.2 0 (by omega), c1.2 0 (by omega) (by simp)]
  rw [F1] at k31
  refine am_putf hC dX4_init_31 pX4_24 (fun _ => hin rfl) k31 (am_fitO _ _) (Nat.le_of_ble_eq_true rfl) ?_
  refine am_heap (fun h2 e => ?_)
  have gu2 : gx q4 h2 [0] := by rw [e]; exact gx_up _ _ _
  have F2 := (congrArg (fun H => H.2 0) e).trans (am_up_at _ _ _)
  have s2 : h2.1 = 11 := by rw [e]; exact t4
  have a2 : fF h2 2 (0, 0, 1) := fF.gx (f := 2) ⟨f1, f2, f3⟩ gu2 (by have := fp_r 2; omega) (by intro j _ _; simp; omega)
  have g2 : gx h1 h2 [0] := (c1.wk (by simp)).cut (((d2.gx [2, 0]).tr (d3.gx [2, 0])).tr ((d4.wk (S' := [2, 0]) (by simp)).tr (gu2.wk (by simp)))) (by simp; omega)
  clear e
  refine am_aload0 hC dX4_init_34 ?_
  refine am_bipush hC dX4_init_35 rfl ?_
  refine am_newI hC 80 dX4_init_37 rfl (by decide) (by omega) (by omega) ?_
  have k39 : (am_push h2 (eI 80 (fun _ => 0))).2 0 = some (eO 4 ((([.null, .null, vI 0, .null, vI 0, .null, vI 0, .null, .null, .null, .null, .null, .null, .null, .null]).set 0 (.ref 1)).set 1 (.ref 2))) := by rw [am_push_ne _ _ (by omega)]; exact F2
  rw [s2]
  refine am_putf hC dX4_init_39 pX4_28 (fun _ => hin rfl) k39 (am_fitA _ _) (Nat.le_of_ble_eq_true rfl) ?_
  refine am_heap (fun h3 e => ?_)
  have n3 := newQp (by omega) e
  clear e
  rw [s2] at n3
  have s3 : h3.1 = 12 := n3.1
  have F3 := n3.2.1
  have a3 := n3.2.2.1
  have g3 := n3.2.2.2
  refine am_aload0 hC dX4_init_42 ?_
  refine am_bipush hC dX4_init_43 rfl ?_
  refine am_newL hC 32 dX4_init_45 rfl (by decide) (by omega) (by omega) ?_
  have k47 : (am_push h3 (eL 32 (fun _ => 0))).2 0 = some (eO 4 (((([.null, .null, vI 0, .null, vI 0, .null, vI 0, .null, .null, .null, .null, .null, .null, .null, .null]).set 0 (.ref 1)).set 1 (.ref 2)).set 3 (.ref 11))) := by rw [am_push_ne _ _ (by omega)]; exact F3
  rw [s3]
  refine am_putf hC dX4_init_47 pX4_32 (fun _ => hin rfl) k47 (am_fitA _ _) (Nat.le_of_ble_eq_true rfl) ?_
  refine am_heap (fun h4 e => ?_)
  have n4 := newQp (by omega) e
  clear e
  rw [s3] at n4
  have s4 : h4.1 = 13 := n4.1
  have F4 := n4.2.1
  have a4 := n4.2.2.1
  have g4 := n4.2.2.2
  refine am_aload0 hC dX4_init_50 ?_
  refine am_lconst1 hC dX4_init_51 ?_
  refine am_S1_qA hC dX4_init_52 kX4_15 (m_Wof (v := 1) _ _ (by omega) z1) (Nat.le_of_ble_eq_true rfl) (by decide) (by omega) (by omega) (fun r m4 q => ?_)
  obtain ⟨er, gr4, w4⟩ := q
  rw [s4] at er w4
  subst er
  have k55 := F4
  rw [← gr4.2 0 (by omega)] at k55
  have t4 : m4.1 = 15 := by rw [gr4.1, s4]
  have w4 : wN m4 13 3 1 := w4
  refine am_putf hC dX4_init_55 pX4_36 (fun _ => hin rfl) k55 (am_fitO _ _) (Nat.le_of_ble_eq_true rfl) ?_
  refine am_heap (fun h5 e => ?_)
  have gu5 : gx m4 h5 [0] := by rw [e]; exact gx_up _ _ _
  have F5 := (congrArg (fun H => H.2 0) e).trans (am_up_at _ _ _)
  have s5 : h5.1 = 15 := by rw [e]; exact t4
  have a5 := w4.gx gu5 (by omega) (by simp) (by simp)
  have g5 : gx h4 h5 [0] := (gr4.gx [0]).tr gu5
  clear e
  refine am_aload0 hC dX4_init_58 ?_
  refine am_new hC (ci := 3) (RX3, TX3, 2) tyX3 [.null, vI 0] dX4_init_59 rfl tyX3_ok nf3 nX4_16.1 nX4_16.2.1 nX4_16.2.2 (by omega) (by show _ + 2 ≤ _; omega) ?_
  refine am_wz ?_
  refine am_dup hC dX4_init_62 rfl ?_
  refine am_bipush hC dX4_init_63 rfl ?_
  refine am_I1_qN hC dX4_init_65 kX4_40 (m_Winit (room := 56) _ _ (am_push_at _ _) (Nat.lt_succ_self _) (by decide)) (Nat.le_of_ble_eq_true rfl) (by decide) (by omega) (by omega) (fun m5 q => ?_)
  have k68 := F5
  rw [← show m5.2 0 = h5.2 0 by rw [q, am_up_ne _ _ (by omega), am_push_ne _ _ (by show 0 ≠ h5.1 + 1; omega), am_push_ne _ _ (by omega)]] at k68
  rw [s5]
  refine am_putf hC dX4_init_68 pX4_43 (fun _ => hin rfl) k68 (am_fitO _ _) (Nat.le_of_ble_eq_true rfl) ?_
  refine am_heap (fun h6 e => ?_)
  have n6 := newWp (by omega) (by decide) q e
  clear e q
  rw [s5] at n6
  have s6 : h6.1 = 17 := n6.1
  have F6 := n6.2.1
  have a6 := n6.2.2.1
  have g6 := n6.2.2.2
  refine am_aload0 hC dX4_init_71 ?_
  refine am_new hC (ci := 3) (RX3, TX3, 2) tyX3 [.null, vI 0] dX4_init_72 rfl tyX3_ok nf3 nX4_16.1 nX4_16.2.1 nX4_16.2.2 (by omega) (by show _ + 2 ≤ _; omega) ?_
  refine am_wz ?_
  refine am_dup hC dX4_init_75 rfl ?_
  refine am_bipush hC dX4_init_76 rfl ?_
  refine am_I1_qN hC dX4_init_78 kX4_40 (m_Winit (room := 56) _ _ (am_push_at _ _) (Nat.lt_succ_self _) (by decide)) (Nat.le_of_ble_eq_true rfl) (by decide) (by omega) (by omega) (fun m6 q => ?_)
  have k81 := F6
  rw [← show m6.2 0 = h6.2 0 by rw [q, am_up_ne _ _ (by omega), am_push_ne _ _ (by show 0 ≠ h6.1 + 1; omega), am_push_ne _ _ (by omega)]] at k81
  rw [s6]
  refine am_putf hC dX4_init_81 pX4_46 (fun _ => hin rfl) k81 (am_fitO _ _) (Nat.le_of_ble_eq_true rfl) ?_
  refine am_heap (fun h7 e => ?_)
  have n7 := newWp (by omega) (by decide) q e
  clear e q
  rw [s6] at n7
  have s7 : h7.1 = 19 := n7.1
  have F7 := n7.2.1
  have a7 := n7.2.2.1
  have g7 := n7.2.2.2
  refine am_aload0 hC dX4_init_84 ?_
  refine am_new hC (ci := 3) (RX3, TX3, 2) tyX3 [.null, vI 0] dX4_init_85 rfl tyX3_ok nf3 nX4_16.1 nX4_16.2.1 nX4_16.2.2 (by omega) (by show _ + 2 ≤ _; omega) ?_
  refine am_wz ?_
  refine am_dup hC dX4_init_88 rfl ?_
  refine am_bipush hC dX4_init_89 rfl ?_
  refine am_I1_qN hC dX4_init_91 kX4_40 (m_Winit (room := 56) _ _ (am_push_at _ _) (Nat.lt_succ_self _) (by decide)) (Nat.le_of_ble_eq_true rfl) (by decide) (by omega) (by omega) (fun m7 q => ?_)
  have k94 := F7
  rw [← show m7.2 0 = h7.2 0 by rw [q, am_up_ne _ _ (by omega), am_push_ne _ _ (by show 0 ≠ h7.1 + 1; omega), am_push_ne _ _ (by omega)]] at k94
  rw [s7]
  refine am_putf hC dX4_init_94 pX4_49 (fun _ => hin rfl) k94 (am_fitO _ _) (Nat.le_of_ble_eq_true rfl) ?_
  refine am_heap (fun h8 e => ?_)
  have n8 := newWp (by omega) (by decide) q e
  clear e q
  rw [s7] at n8
  have s8 : h8.1 = 21 := n8.1
  have F8 := n8.2.1
  have a8 := n8.2.2.1
  have g8 := n8.2.2.2
  refine am_aload0 hC dX4_init_97 ?_
  refine am_new hC (ci := 3) (RX3, TX3, 2) tyX3 [.null, vI 0] dX4_init_98 rfl tyX3_ok nf3 nX4_16.1 nX4_16.2.1 nX4_16.2.2 (by omega) (by show _ + 2 ≤ _; omega) ?_
  refine am_wz ?_
  refine am_dup hC dX4_init_101 rfl ?_
  refine am_bipush hC dX4_init_102 rfl ?_
  refine am_I1_qN hC dX4_init_104 kX4_40 (m_Winit (room := 56) _ _ (am_push_at _ _) (Nat.lt_succ_self _) (by decide)) (Nat.le_of_ble_eq_true rfl) (by decide) (by omega) (by omega) (fun m8 q => ?_)
  have k107 := F8
  rw [← show m8.2 0 = h8.2 0 by rw [q, am_up_ne _ _ (by omega), am_push_ne _ _ (by show 0 ≠ h8.1 + 1; omega), am_push_ne _ _ (by omega)]] at k107
  rw [s8]
  refine am_putf hC dX4_init_107 pX4_52 (fun _ => hin rfl) k107 (am_fitO _ _) (Nat.le_of_ble_eq_true rfl) ?_
  refine am_heap (fun h9 e => ?_)
  have n9 := newWp (by omega) (by decide) q e
  clear e q
  rw [s8] at n9
  have s9 : h9.1 = 23 := n9.1
  have F9 := n9.2.1
  have a9 := n9.2.2.1
  have g9 := n9.2.2.2
  refine am_aload0 hC dX4_init_110 ?_
  refine am_sipush hC dX4_init_111 rfl ?_
  refine am_newI hC 243 dX4_init_114 rfl (by decide) (by omega) (by omega) ?_
  have k116 : (am_push h9 (eI 243 (fun _ => 0))).2 0 = some (eO 4 (((((((((([.null, .null, vI 0, .null, vI 0, .null, vI 0, .null, .null, .null, .null, .null, .null, .null, .null]).set 0 (.ref 1)).set 1 (.ref 2)).set 3 (.ref 11)).set 5 (.ref 12)).set 7 (.ref 13)).set 8 (.ref 15)).set 9 (.ref 17)).set 10 (.ref 19)).set 11 (.ref 21))) := by rw [am_push_ne _ _ (by omega)]; exact F9
  rw [s9]
  refine am_putf hC dX4_init_116 pX4_55 (fun _ => hin rfl) k116 (am_fitA _ _) (Nat.le_of_ble_eq_true rfl) ?_
  refine am_heap (fun h10 e => ?_)
  have n10 := newQp (by omega) e
  clear e
  rw [s9] at n10
  have s10 : h10.1 = 24 := n10.1
  have F10 := n10.2.1
  have a10 := n10.2.2.1
  have g10 := n10.2.2.2
  refine am_aload0 hC dX4_init_119 ?_
  refine am_new hC (ci := 0) (RX0, TX0, 3) tyX0 [.null, .null, .null] dX4_init_120 rfl tyX0_ok nf0 nX4_58.1 nX4_58.2.1 nX4_58.2.2 (by omega) (by show _ + 3 ≤ _; omega) ?_
  refine am_wz ?_
  refine am_heap (fun m10 e => ?_)
  have p10 : m10.2 24 = some (eO 0 [.null, .null, .null]) := by rw [e]; show (am_push h10 _).2 24 = _; rw [← s10]; exact am_push_at _ _
  have t10 : m10.1 = 25 := by rw [e]; show h10.1 + 1 = _; omega
  have gm10 : gx h10 m10 [] := by rw [e]; exact gx_push _ _ _
  rw [s10]
  clear e
  refine am_dup hC dX4_init_123 rfl ?_
  refine am_I0_qN hC dX4_init_124 kX4_60 (m_Dinit _ _ p10 t10) (Nat.le_of_ble_eq_true rfl) (by decide) (by omega) (by omega) (fun i10 q => ?_)
  have k127 : i10.2 0 = h10.2 0 := by rw [q.2.2.2 0 (by omega) (by simp), gm10.2 0 (by omega) (by simp)]
  rw [F10] at k127
  refine am_putf hC dX4_init_127 pX4_61 (fun _ => hin rfl) k127 (am_fitO _ _) (Nat.le_of_ble_eq_true rfl) ?_
  refine am_heap (fun h11 e => ?_)
  have gu11 : gx i10 h11 [0] := by rw [e]; exact gx_up _ _ _
  have F11 := (congrArg (fun H => H.2 0) e).trans (am_up_at _ _ _)
  have s11 : h11.1 = 31 := by rw [e]; exact q.1
  have a11 := q.2.1.gx gu11 (by omega) (by intro j _ _; simp; omega)
  have g11 : gx h10 h11 [0] := (gm10.wk (by simp)).cut ((q.2.2.wk (S' := [24, 0]) (by simp)).tr (gu11.wk (by simp))) (by simp; omega)
  clear e q
  refine am_aload0 hC dX4_init_130 ?_
  refine am_new hC (ci := 2) (RX2, TX2, 7) tyX2 [.null, .null, .null, vL 0, vL 0, vL 0, vL 0] dX4_init_131 rfl tyX2_ok nf2 nX4_65.1 nX4_65.2.1 nX4_65.2.2 (by omega) (by show _ + 7 ≤ _; omega) ?_
  refine am_wz ?_
  refine am_heap (fun m11 e => ?_)
  have p11 : m11.2 31 = some (eO 2 [.null, .null, .null, vL 0, vL 0, vL 0, vL 0]) := by rw [e]; show (am_push h11 _).2 31 = _; rw [← s11]; exact am_push_at _ _
  have t11 : m11.1 = 32 := by rw [e]; show h11.1 + 1 = _; omega
  have gm11 : gx h11 m11 [] := by rw [e]; exact gx_push _ _ _
  rw [s11]
  clear e
  refine am_dup hC dX4_init_134 rfl ?_
  refine am_I0_qN hC dX4_init_135 kX4_67 (m_Minit _ _ p11 t11) (Nat.le_of_ble_eq_true rfl) (by decide) (by omega) (by omega) (fun i11 q => ?_)
  have k138 : i11.2 0 = h11.2 0 := by rw [q.2.2.2 0 (by omega) (by simp), gm11.2 0 (by omega) (by simp)]
  rw [F11] at k138
  refine am_putf hC dX4_init_138 pX4_68 (fun _ => hin rfl) k138 (am_fitO _ _) (Nat.le_of_ble_eq_true rfl) ?_
  refine am_heap (fun h12 e => ?_)
  have gu12 : gx i11 h12 [0] := by rw [e]; exact gx_up _ _ _
  have F12 := (congrArg (fun H => H.2 0) e).trans (am_up_at _ _ _)
  have s12 : h12.1 = 43 := by rw [e]; exact q.1
  have a12 := q.2.1.gx gu12 (by omega) (by intro j _ _; simp; omega)
  have g12 : gx h11 h12 [0] := (gm11.wk (by simp)).cut ((q.2.2.wk (S' := [31, 0]) (by simp)).tr (gu12.wk (by simp))) (by simp; omega)
  clear e q
  have t12 := g12
  have u11 := g11.tr t12
  have u10 := g10.tr u11
  have u9 := g9.tr u10
  have u8 := g8.tr u9
  have u7 := g7.tr u8
  have u6 := g6.tr u7
  have u5 := g5.tr u6
  have u4 := g4.tr u5
  have u3 := g3.tr u4
  have u2 := g2.tr u3
  have K0 : h12.2 0 = some (kO 0 0 0) := F12
  have K1 : h12.2 1 = some (eR 150 (fun _ => none)) := by rw [u2.2 1 (by omega) (by simp)]; exact a1
  have KZ : fF h12 2 (0, 0, 1) := a2.gx u3 (by have := fp_r 2; omega) (by intro j _ _; simp; omega)
  have K2 : h12.2 11 = some (eI 80 (fun _ => 0)) := by rw [u4.2 11 (by omega) (by simp)]; exact a3
  have K3 : h12.2 12 = some (eL 32 (fun _ => 0)) := by rw [u5.2 12 (by omega) (by simp)]; exact a4
  have K13 : wN h12 13 3 1 := a5.gx u6 (by omega) (by simp) (by simp)
  have K15 : wC h12 15 56 := (a6.gx u7 (by omega) (by simp) (by simp)).cc
  have K17 : wC h12 17 56 := (a7.gx u8 (by omega) (by simp) (by simp)).cc
  have K19 : wC h12 19 56 := (a8.gx u9 (by omega) (by simp) (by simp)).cc
  have K21 : wC h12 21 56 := (a9.gx u10 (by omega) (by simp) (by simp)).cc
  have K23 : h12.2 23 = some (eI 243 (fun _ => 0)) := by rw [u11.2 23 (by omega) (by simp)]; exact a10
  have K24 : wD h12 24 := a11.gx t12 (by omega) (by intro j _ _; simp; omega)
  have K31 : wM h12 31 := a12
  have e2 := fp_r 2
  refine am_wid hC (k2 := 60) (z2 := 2000) (by omega) (by omega) ?_
  exact am_vret hC hT dX4_init_141 (by omega) (by omega) ⟨rfl, s12, K0, ⟨_, K1, fun j hj => ⟨2, Or.inr ⟨rfl, rfl⟩, fp_in (Or.inl rfl), by omega, KZ⟩⟩, K2, K3, K15, K17, K19, K21, K13, ⟨_, K23⟩, K24, K31⟩

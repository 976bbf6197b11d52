/-! KerfFractions: its state and its constructor -/
abbrev aV := Int × Nat × Nat
/-- how many values are put, which; how many roots are used, the ends; how many weights are told, which -/
abbrev aS := Nat × (Nat → aV) × Nat × (Nat → Int) × Nat × (Nat → Int)
def kO (n rt tw : Int) : am_E := eO 4 [.ref 1, vI n, .ref 2, vI rt, .ref 3, vI tw, .ref 4, .ref 6, .ref 8, .ref 10, .ref 12, .ref 14, .ref 15, .ref 22]
def fF (h : am_H) (f : Nat) (v : aV) : Prop := h.2 f = some (eO 1 [vI v.1, .ref (f + 1), .ref (f + 3)]) ∧ wN h (f + 1) (szn v.2.1) v.2.1 ∧ wN h (f + 3) (szn v.2.2) v.2.2
def kV (h : am_H) (V : Nat → aV) : Prop := ∃ f : Nat → Option Nat, h.2 1 = some (eR 150 f) ∧ ∀ i, i < 150 → ∃ r, f i = some r ∧ (r = 34 ∨ 47 ≤ r) ∧ r + 4 < h.1 ∧ fF h r (V i)
def kT (h : am_H) : Prop := wC h 4 56 ∧ wC h 6 56 ∧ wC h 8 56 ∧ wC h 10 56 ∧ wN h 12 1 1 ∧ (∃ f, h.2 14 = some (eI 243 f)) ∧ wD h 15 ∧ wM h 22
def kS (h : am_H) (s : aS) : Prop := h.2 0 = some (kO s.1 s.2.2.1 s.2.2.2.2.1) ∧ kV h s.2.1 ∧ h.2 2 = some (eI 80 s.2.2.2.1) ∧ h.2 3 = some (eL 32 s.2.2.2.2.2) ∧ kT h
def s0 : aS := (0, fun _ => (0, 0, 1), 0, fun _ => 0, 0, fun _ => 0)
theorem fF.gx {h h1 : am_H} {S : List Nat} {f : Nat} {v : aV} (w : fF h f v) (o : gx h h1 S) (b : f + 4 < h.1) (q : ∀ j, f ≤ j → j ≤ f + 4 → j ∉ S) : fF h1 f v := by
  obtain ⟨w1, w2, w3⟩ := w
  exact ⟨by rw [o.2 _ (by omega) (q _ (by omega) (by omega))]; exact w1, w2.gx o (by omega) (q _ (by omega) (by omega)) (q _ (by omega) (by omega)), w3.gx o (by omega) (q _ (by omega) (by omega)) (q _ (by omega) (by omega))⟩
theorem nX4_9f : Cond.classLink RX4 9 RX1 ∈ am_ws ∧ Cond.instantiable RX1 3 ∈ am_ws ∧ Cond.initialized RX1 ∈ am_ws := ⟨nX4_9, am_in (List.mem_of_getElem? (i := 156) (by decide +kernel)) rfl, am_in (List.mem_of_getElem? (i := 45) (by decide +kernel)) rfl⟩
theorem nf1 : ∀ (b j : Nat), j < 3 → defaultValue (tyX1 j) = vp_V ([vI 0, .null, .null].map (am_c b)) j := fun b j hj => by
  match j, hj with
  | 0, _ => rfl
  | 1, _ => rfl
  | 2, _ => rfl
theorem nf2 : ∀ (b j : Nat), j < 7 → defaultValue (tyX2 j) = vp_V ([Value.null, .null, .null, vL 0, vL 0, vL 0, vL 0].map (am_c b)) j := fun b j hj => by
  match j, hj with
  | 0, _ => rfl
  | 1, _ => rfl
  | 2, _ => rfl
  | 3, _ => rfl
  | 4, _ => rfl
  | 5, _ => rfl
  | 6, _ => rfl
theorem am_wz {x : am_X} {pc k z : Nat} {h : am_H} {ls : List (Option Value)} {st : List Value} {α β : Type} {a : α} {b : β} {c : Nat} (kk : am_W x pc k (z + c) h ls st) : am_W x pc k (z + (a, b, c).2.2) h ls st := kk
theorem newQp {h h3 : am_H} {o : Nat} {e E : am_E} (ho : o < h.1) (e3 : h3 = am_up (am_push h e) o E) : h3.1 = h.1 + 1 ∧ h3.2 o = some E ∧ h3.2 h.1 = some e ∧ gx h h3 [o] := by
  subst e3
  exact ⟨rfl, am_up_at _ _ _, by rw [am_up_ne _ _ (by omega)]; exact am_push_at _ _, (gx_push h e [o]).tr (gx_up _ _ _)⟩
theorem kT.gx {h h1 : am_H} {S : List Nat} (w : kT h) (o : gx h h1 S) (b : 34 ≤ h.1) (q : ∀ j, 4 ≤ j → j < 34 → j ∉ S) : kT h1 := by
  obtain ⟨w1, w2, w3, w4, w5, ⟨f, w6⟩, w7, w8⟩ := w
  exact ⟨w1.gx o (by omega) (q _ (by omega) (by omega)) (q _ (by omega) (by omega)), w2.gx o (by omega) (q _ (by omega) (by omega)) (q _ (by omega) (by omega)), w3.gx o (by omega) (q _ (by omega) (by omega)) (q _ (by omega) (by omega)), w4.gx o (by omega) (q _ (by omega) (by omega)) (q _ (by omega) (by omega)), w5.gx o (by omega) (q _ (by omega) (by omega)) (q _ (by omega) (by omega)), ⟨f, by rw [o.2 _ (by omega) (q _ (by omega) (by omega))]; exact w6⟩, w7.gx o (by omega) (fun j a b => q j (by omega) (by omega)), w8.gx o (by omega) (fun j a b => q j (by omega) (by omega))⟩
theorem Kinit_loop {z : am_X} (hC : am_C z cX4_init yX4_init.cls 6 60 2000) (hT : am_T z none (qN fun h1 => h1.1 = 39 ∧ kS h1 s0) 60 2000) : ∀ (m i : Nat) (H : am_H) (f : Nat → Option Nat), i + m = 150 → H.1 = 39 → H.2 0 = some (kO 0 0 0) → H.2 1 = some (eR 150 f) → H.2 2 = some (eI 80 (fun _ => 0)) → H.2 3 = some (eL 32 (fun _ => 0)) → kT H → fF H 34 (0, 0, 1) → (∀ j, j < i → f j = some 34) → am_W z 152 60 2000 H [some (.ref 0), some (.ref 34), some (vI (i : Int))] [] := by
  intro m
  induction m with
  | zero =>
    intro i H f hi s M0 M1 M2 M3 MT F hf
    refine am_iload2 hC dX4_init_152 ?_
    refine am_aload0 hC dX4_init_153 ?_
    refine am_getf hC dX4_init_154 fX4_11 M0 rfl ?_
    refine am_alenR hC dX4_init_157 M1 ?_
    refine am_icmp_ge hC 174 dX4_init_158 rfl (by omega) (by omega) (fun c158 => ?_) (fun c158 => ?_)
    · exact am_vret hC hT dX4_init_174 (by omega) (by omega) ⟨rfl, s, M0, ⟨f, M1, fun j hj => ⟨34, hf j (by omega), Or.inl rfl, by omega, F⟩⟩, M2, M3, MT⟩
    · exact absurd c158 (by omega)
  | succ m ih =>
    intro i H f hi s M0 M1 M2 M3 MT F hf
    refine am_iload2 hC dX4_init_152 ?_
    refine am_aload0 hC dX4_init_153 ?_
    refine am_getf hC dX4_init_154 fX4_11 M0 rfl ?_
    refine am_alenR hC dX4_init_157 M1 ?_
    refine am_icmp_ge hC 174 dX4_init_158 rfl (by omega) (by omega) (fun c158 => ?_) (fun c158 => ?_)
    · exact absurd c158 (by omega)
    · refine am_aload0 hC dX4_init_161 ?_
      refine am_getf hC dX4_init_162 fX4_11 M0 rfl ?_
      refine am_iload2 hC dX4_init_165 ?_
      refine am_aload1 hC dX4_init_166 ?_
      refine am_aast hC dX4_init_167 M1 F.1 (by omega) (by omega) ?_
      rw [Int.toNat_natCast]
      refine am_heap (fun H1 e => ?_)
      have g1 : gx H H1 [1] := by rw [e]; exact gx_up _ _ _
      have N1 : H1.2 1 = _ := (congrArg (fun H => H.2 1) e).trans (am_up_at _ _ _)
      have s1 : H1.1 = 39 := by rw [e]; exact s
      clear e
      refine am_iinc2 hC dX4_init_168 rfl ?_
      refine am_goto hC 152 dX4_init_171 rfl ?_
      rw [show (i : Int) + 1 = ((i + 1 : Nat) : Int) by omega]
      refine ih (i + 1) H1 _ (by omega) s1 (by rw [g1.2 0 (by omega) (by simp)]; exact M0) N1 (by rw [g1.2 2 (by omega) (by simp)]; exact M2) (by rw [g1.2 3 (by omega) (by simp)]; exact M3) (MT.gx g1 (by omega) (by intro j _ _; simp; omega)) (F.gx g1 (by omega) (by intro j _ _; simp; omega)) (fun j hj => ?_)
      unfold am_fq
      by_cases e : j = i
      · rw [if_pos e]
      · rw [if_neg e]; exact hf j (by omega)
theorem m_Kinit (l : Launch) (g : am_G) {h : am_H} (h0 : h.2 0 = some (eO 4 [.null, vI 0, .null, vI 0, .null, vI 0, .null, .null, .null, .null, .null, .null, .null, .null])) (hd : h.1 = 1) :
    am_Met l g yX4_init (am_W1 yX4_init cX4_init 3 none) 6 60 2000 [.ref 0] h (qN fun h1 => h1.1 = 39 ∧ kS h1 s0) := by
  refine am_mk [some (.ref 0), none, none] 2 rfl rfl (by decide +kernel) (fun z hl hg hC hT hin => ?_)
  refine am_aload0 hC dX4_init_0 ?_
  refine am_objInit hC dX4_init_1 oX4_1 (by decide) (by decide) ?_
  refine am_aload0 hC dX4_init_4 ?_
  refine am_sipush hC dX4_init_5 rfl ?_
  refine am_newR hC 150 dX4_init_8 nX4_9 rfl (by decide) (by omega) (by omega) ?_
  have k11 : (am_push h (eR 150 (fun _ => none))).2 0 = some (eO 4 ([.null, vI 0, .null, vI 0, .null, vI 0, .null, .null, .null, .null, .null, .null, .null, .null])) := by rw [am_push_ne _ _ (by omega)]; exact h0
  rw [hd]
  refine am_putf hC dX4_init_11 pX4_11 (fun _ => hin rfl) k11 (am_fitA _ _) (Nat.le_of_ble_eq_true rfl) ?_
  refine am_heap (fun h1 e => ?_)
  have n1 := newQp (by omega) e
  clear e
  rw [hd] at n1
  have s1 : h1.1 = 2 := n1.1
  have F1 := n1.2.1
  have a1 := n1.2.2.1
  have g1 := n1.2.2.2
  refine am_aload0 hC dX4_init_14 ?_
  refine am_bipush hC dX4_init_15 rfl ?_
  refine am_newI hC 80 dX4_init_17 rfl (by decide) (by omega) (by omega) ?_
  have k19 : (am_push h1 (eI 80 (fun _ => 0))).2 0 = some (eO 4 (([.null, vI 0, .null, vI 0, .null, vI 0, .null, .null, .null, .null, .null, .null, .null, .null]).set 0 (.ref 1))) := by rw [am_push_ne _ _ (by omega)]; exact F1
  rw [s1]
  refine am_putf hC dX4_init_19 pX4_15 (fun _ => hin rfl) k19 (am_fitA _ _) (Nat.le_of_ble_eq_true rfl) ?_
  refine am_heap (fun h2 e => ?_)
  have n2 := newQp (by omega) e
  clear e
  rw [s1] at n2
  have s2 : h2.1 = 3 := n2.1
  have F2 := n2.2.1
  have a2 := n2.2.2.1
  have g2 := n2.2.2.2
  refine am_aload0 hC dX4_init_22 ?_
  refine am_bipush hC dX4_init_23 rfl ?_
  refine am_newL hC 32 dX4_init_25 rfl (by decide) (by omega) (by omega) ?_
  have k27 : (am_push h2 (eL 32 (fun _ => 0))).2 0 = some (eO 4 ((([.null, vI 0, .null, vI 0, .null, vI 0, .null, .null, .null, .null, .null, .null, .null, .null]).set 0 (.ref 1)).set 2 (.ref 2))) := by rw [am_push_ne _ _ (by omega)]; exact F2
  rw [s2]
  refine am_putf hC dX4_init_27 pX4_19 (fun _ => hin rfl) k27 (am_fitA _ _) (Nat.le_of_ble_eq_true rfl) ?_
  refine am_heap (fun h3 e => ?_)
  have n3 := newQp (by omega) e
  clear e
  rw [s2] at n3
  have s3 : h3.1 = 4 := n3.1
  have F3 := n3.2.1
  have a3 := n3.2.2.1
  have g3 := n3.2.2.2
  refine am_aload0 hC dX4_init_30 ?_
  refine am_new hC (ci := 3) (RX3, TX3, 2) tyX3 [.null, vI 0] dX4_init_31 rfl tyX3_ok nf3 nX4_23.1 nX4_23.2.1 nX4_23.2.2 (by omega) (by show _ + 2 ≤ _; omega) ?_
  refine am_wz ?_
  refine am_dup hC dX4_init_34 rfl ?_
  refine am_bipush hC dX4_init_35 rfl ?_
  refine am_I1_qN hC dX4_init_37 kX4_25 (m_Winit (room := 56) _ _ (am_push_at _ _) (Nat.lt_succ_self _) (by decide)) (Nat.le_of_ble_eq_true rfl) (by decide) (by omega) (by omega) (fun m3 q => ?_)
  have k40 := F3
  rw [← show m3.2 0 = h3.2 0 by rw [q, am_up_ne _ _ (by omega), am_push_ne _ _ (by show 0 ≠ h3.1 + 1; omega), am_push_ne _ _ (by omega)]] at k40
  rw [s3]
  refine am_putf hC dX4_init_40 pX4_28 (fun _ => hin rfl) k40 (am_fitO _ _) (Nat.le_of_ble_eq_true rfl) ?_
  refine am_heap (fun h4 e => ?_)
  have n4 := newWp (by omega) (by decide) q e
  clear e q
  rw [s3] at n4
  have s4 : h4.1 = 6 := n4.1
  have F4 := n4.2.1
  have a4 := n4.2.2.1
  have g4 := n4.2.2.2
  refine am_aload0 hC dX4_init_43 ?_
  refine am_new hC (ci := 3) (RX3, TX3, 2) tyX3 [.null, vI 0] dX4_init_44 rfl tyX3_ok nf3 nX4_23.1 nX4_23.2.1 nX4_23.2.2 (by omega) (by show _ + 2 ≤ _; omega) ?_
  refine am_wz ?_
  refine am_dup hC dX4_init_47 rfl ?_
  refine am_bipush hC dX4_init_48 rfl ?_
  refine am_I1_qN hC dX4_init_50 kX4_25 (m_Winit (room := 56) _ _ (am_push_at _ _) (Nat.lt_succ_self _) (by decide)) (Nat.le_of_ble_eq_true rfl) (by decide) (by omega) (by omega) (fun m4 q => ?_)
  have k53 := F4
  rw [← show m4.2 0 = h4.2 0 by rw [q, am_up_ne _ _ (by omega), am_push_ne _ _ (by show 0 ≠ h4.1 + 1; omega), am_push_ne _ _ (by omega)]] at k53
  rw [s4]
  refine am_putf hC dX4_init_53 pX4_32 (fun _ => hin rfl) k53 (am_fitO _ _) (Nat.le_of_ble_eq_true rfl) ?_
  refine am_heap (fun h5 e => ?_)
  have n5 := newWp (by omega) (by decide) q e
  clear e q
  rw [s4] at n5
  have s5 : h5.1 = 8 := n5.1
  have F5 := n5.2.1
  have a5 := n5.2.2.1
  have g5 := n5.2.2.2
  refine am_aload0 hC dX4_init_56 ?_
  refine am_new hC (ci := 3) (RX3, TX3, 2) tyX3 [.null, vI 0] dX4_init_57 rfl tyX3_ok nf3 nX4_23.1 nX4_23.2.1 nX4_23.2.2 (by omega) (by show _ + 2 ≤ _; omega) ?_
  refine am_wz ?_
  refine am_dup hC dX4_init_60 rfl ?_
  refine am_bipush hC dX4_init_61 rfl ?_
  refine am_I1_qN hC dX4_init_63 kX4_25 (m_Winit (room := 56) _ _ (am_push_at _ _) (Nat.lt_succ_self _) (by decide)) (Nat.le_of_ble_eq_true rfl) (by decide) (by omega) (by omega) (fun m5 q => ?_)
  have k66 := F5
  rw [← show m5.2 0 = h5.2 0 by rw [q, am_up_ne _ _ (by omega), am_push_ne _ _ (by show 0 ≠ h5.1 + 1; omega), am_push_ne _ _ (by omega)]] at k66
  rw [s5]
  refine am_putf hC dX4_init_66 pX4_35 (fun _ => hin rfl) k66 (am_fitO _ _) (Nat.le_of_ble_eq_true rfl) ?_
  refine am_heap (fun h6 e => ?_)
  have n6 := newWp (by omega) (by decide) q e
  clear e q
  rw [s5] at n6
  have s6 : h6.1 = 10 := n6.1
  have F6 := n6.2.1
  have a6 := n6.2.2.1
  have g6 := n6.2.2.2
  refine am_aload0 hC dX4_init_69 ?_
  refine am_new hC (ci := 3) (RX3, TX3, 2) tyX3 [.null, vI 0] dX4_init_70 rfl tyX3_ok nf3 nX4_23.1 nX4_23.2.1 nX4_23.2.2 (by omega) (by show _ + 2 ≤ _; omega) ?_
  refine am_wz ?_
  refine am_dup hC dX4_init_73 rfl ?_
  refine am_bipush hC dX4_init_74 rfl ?_
  refine am_I1_qN hC dX4_init_76 kX4_25 (m_Winit (room := 56) _ _ (am_push_at _ _) (Nat.lt_succ_self _) (by decide)) (Nat.le_of_ble_eq_true rfl) (by decide) (by omega) (by omega) (fun m6 q => ?_)
  have k79 := F6
  rw [← show m6.2 0 = h6.2 0 by rw [q, am_up_ne _ _ (by omega), am_push_ne _ _ (by show 0 ≠ h6.1 + 1; omega), am_push_ne _ _ (by omega)]] at k79
  rw [s6]
  refine am_putf hC dX4_init_79 pX4_38 (fun _ => hin rfl) k79 (am_fitO _ _) (Nat.le_of_ble_eq_true rfl) ?_
  refine am_heap (fun h7 e => ?_)
  have n7 := newWp (by omega) (by decide) q e
  clear e q
  rw [s6] at n7
  have s7 : h7.1 = 12 := n7.1
  have F7 := n7.2.1
  have a7 := n7.2.2.1
  have g7 := n7.2.2.2
  refine am_aload0 hC dX4_init_82 ?_
  refine am_new hC (ci := 3) (RX3, TX3, 2) tyX3 [.null, vI 0] dX4_init_83 rfl tyX3_ok nf3 nX4_23.1 nX4_23.2.1 nX4_23.2.2 (by omega) (by show _ + 2 ≤ _; omega) ?_
  refine am_wz ?_
  refine am_dup hC dX4_init_86 rfl ?_
  refine am_iconst hC dX4_init_87 ?_
  refine am_I1_qN hC dX4_init_88 kX4_25 (m_Winit (room := 1) _ _ (am_push_at _ _) (Nat.lt_succ_self _) (by decide)) (Nat.le_of_ble_eq_true rfl) (by decide) (by omega) (by omega) (fun m7 q => ?_)
  have k91 := F7
  rw [← show m7.2 0 = h7.2 0 by rw [q, am_up_ne _ _ (by omega), am_push_ne _ _ (by show 0 ≠ h7.1 + 1; omega), am_push_ne _ _ (by omega)]] at k91
  rw [s7]
  refine am_putf hC dX4_init_91 pX4_41 (fun _ => hin rfl) k91 (am_fitO _ _) (Nat.le_of_ble_eq_true rfl) ?_
  refine am_heap (fun h8 e => ?_)
  have n8 := newWp (by omega) (by decide) q e
  clear e q
  rw [s7] at n8
  have s8 : h8.1 = 14 := n8.1
  have F8 := n8.2.1
  have a8 := n8.2.2.1
  have g8 := n8.2.2.2
  refine am_aload0 hC dX4_init_94 ?_
  refine am_sipush hC dX4_init_95 rfl ?_
  refine am_newI hC 243 dX4_init_98 rfl (by decide) (by omega) (by omega) ?_
  have k100 : (am_push h8 (eI 243 (fun _ => 0))).2 0 = some (eO 4 ((((((((([.null, vI 0, .null, vI 0, .null, vI 0, .null, .null, .null, .null, .null, .null, .null, .null]).set 0 (.ref 1)).set 2 (.ref 2)).set 4 (.ref 3)).set 6 (.ref 4)).set 7 (.ref 6)).set 8 (.ref 8)).set 9 (.ref 10)).set 10 (.ref 12))) := by rw [am_push_ne _ _ (by omega)]; exact F8
  rw [s8]
  refine am_putf hC dX4_init_100 pX4_44 (fun _ => hin rfl) k100 (am_fitA _ _) (Nat.le_of_ble_eq_true rfl) ?_
  refine am_heap (fun h9 e => ?_)
  have n9 := newQp (by omega) e
  clear e
  rw [s8] at n9
  have s9 : h9.1 = 15 := n9.1
  have F9 := n9.2.1
  have a9 := n9.2.2.1
  have g9 := n9.2.2.2
  refine am_aload0 hC dX4_init_103 ?_
  refine am_new hC (ci := 0) (RX0, TX0, 3) tyX0 [.null, .null, .null] dX4_init_104 rfl tyX0_ok nf0 nX4_47.1 nX4_47.2.1 nX4_47.2.2 (by omega) (by show _ + 3 ≤ _; omega) ?_
  refine am_wz ?_
  refine am_heap (fun m9 e => ?_)
  have p9 : m9.2 15 = some (eO 0 [.null, .null, .null]) := by rw [e]; show (am_push h9 _).2 15 = _; rw [← s9]; exact am_push_at _ _
  have t9 : m9.1 = 16 := by rw [e]; show h9.1 + 1 = _; omega
  have gm9 : gx h9 m9 [] := by rw [e]; exact gx_push _ _ _
  rw [s9]
  clear e
  refine am_dup hC dX4_init_107 rfl ?_
  refine am_I0_qN hC dX4_init_108 kX4_49 (m_Dinit _ _ p9 t9) (Nat.le_of_ble_eq_true rfl) (by decide) (by omega) (by omega) (fun i9 q => ?_)
  have k111 : i9.2 0 = h9.2 0 := by rw [q.2.2.2 0 (by omega) (by simp), gm9.2 0 (by omega) (by simp)]
  rw [F9] at k111
  refine am_putf hC dX4_init_111 pX4_50 (fun _ => hin rfl) k111 (am_fitO _ _) (Nat.le_of_ble_eq_true rfl) ?_
  refine am_heap (fun h10 e => ?_)
  have gu10 : gx i9 h10 [0] := by rw [e]; exact gx_up _ _ _
  have F10 := (congrArg (fun H => H.2 0) e).trans (am_up_at _ _ _)
  have s10 : h10.1 = 22 := by rw [e]; exact q.1
  have a10 := q.2.1.gx gu10 (by omega) (by intro j _ _; simp; omega)
  have g10 : gx h9 h10 [0] := (gm9.wk (by simp)).cut ((q.2.2.wk (S' := [15, 0]) (by simp)).tr (gu10.wk (by simp))) (by simp; omega)
  clear e q
  refine am_aload0 hC dX4_init_114 ?_
  refine am_new hC (ci := 2) (RX2, TX2, 7) tyX2 [.null, .null, .null, vL 0, vL 0, vL 0, vL 0] dX4_init_115 rfl tyX2_ok nf2 nX4_54.1 nX4_54.2.1 nX4_54.2.2 (by omega) (by show _ + 7 ≤ _; omega) ?_
  refine am_wz ?_
  refine am_heap (fun m10 e => ?_)
  have p10 : m10.2 22 = some (eO 2 [.null, .null, .null, vL 0, vL 0, vL 0, vL 0]) := by rw [e]; show (am_push h10 _).2 22 = _; rw [← s10]; exact am_push_at _ _
  have t10 : m10.1 = 23 := by rw [e]; show h10.1 + 1 = _; omega
  have gm10 : gx h10 m10 [] := by rw [e]; exact gx_push _ _ _
  rw [s10]
  clear e
  refine am_dup hC dX4_init_118 rfl ?_
  refine am_I0_qN hC dX4_init_119 kX4_56 (m_Minit _ _ p10 t10) (Nat.le_of_ble_eq_true rfl) (by decide) (by omega) (by omega) (fun i10 q => ?_)
  have k122 : i10.2 0 = h10.2 0 := by rw [q.2.2.2 0 (by omega) (by simp), gm10.2 0 (by omega) (by simp)]
  rw [F10] at k122
  refine am_putf hC dX4_init_122 pX4_57 (fun _ => hin rfl) k122 (am_fitO _ _) (Nat.le_of_ble_eq_true rfl) ?_
  refine am_heap (fun h11 e => ?_)
  have gu11 : gx i10 h11 [0] := by rw [e]; exact gx_up _ _ _
  have F11 := (congrArg (fun H => H.2 0) e).trans (am_up_at _ _ _)
  have s11 : h11.1 = 34 := by rw [e]; exact q.1
  have a11 := q.2.1.gx gu11 (by omega) (by intro j _ _; simp; omega)
  have g11 : gx h10 h11 [0] := (gm10.wk (by simp)).cut ((q.2.2.wk (S' := [22, 0]) (by simp)).tr (gu11.wk (by simp))) (by simp; omega)
  clear e q
  refine am_aload0 hC dX4_init_125 ?_
  have t10 := g11
  have t9 := g10.tr t10
  have t8 := g9.tr t9
  have t7 := g8.tr t8
  have t6 := g7.tr t7
  have t5 := g6.tr t6
  have t4 := g5.tr t5
  have t3 := g4.tr t4
  have t2 := g3.tr t3
  have t1 := g2.tr t2
  have K0 : h11.2 0 = some (kO 0 0 0) := F11
  have K1 : h11.2 1 = some (eR 150 (fun _ => none)) := by rw [t1.2 1 (by omega) (by simp)]; exact a1
  have K2 : h11.2 2 = some (eI 80 (fun _ => 0)) := by rw [t2.2 2 (by omega) (by simp)]; exact a2
  have K3 : h11.2 3 = some (eL 32 (fun _ => 0)) := by rw [t3.2 3 (by omega) (by simp)]; exact a3
  have K4 : wC h11 4 56 := (a4.gx t4 (by omega) (by simp) (by simp)).cc
  have K6 : wN h11 6 56 0 := a5.gx t5 (by omega) (by simp) (by simp)
  have K8 : wC h11 8 56 := (a6.gx t6 (by omega) (by simp) (by simp)).cc
  have K10 : wC h11 10 56 := (a7.gx t7 (by omega) (by simp) (by simp)).cc
  have K12 : wN h11 12 1 0 := a8.gx t8 (by omega) (by simp) (by simp)
  have K4' : wN h11 4 56 0 := a4.gx t4 (by omega) (by simp) (by simp)
  have K14 : h11.2 14 = some (eI 243 (fun _ => 0)) := by rw [t9.2 14 (by omega) (by simp)]; exact a9
  have K15 : wD h11 15 := a10.gx t10 (by omega) (by intro j _ _; simp; omega)
  have K22 : wM h11 22 := a11
  refine am_getf hC dX4_init_126 fX4_41 K0 rfl ?_
  refine am_lconst1 hC dX4_init_129 ?_
  refine am_V1_qN hC 3 dX4_init_130 kX4_61 (m_setMagnitude _ _ (v := 1) K12.cc (by decide) (by decide)) K12.o rfl (Nat.le_of_ble_eq_true rfl) (by decide) (by omega) (by omega) (fun j1 q => ?_)
  obtain ⟨J12, o1⟩ := q
  have sj : j1.1 = 34 := o1.1.trans s11
  have G := o1.gx
  have J1 : j1.2 1 = _ := (G.2 1 (by omega) (by simp)).trans K1
  have J0 : j1.2 0 = _ := (G.2 0 (by omega) (by simp)).trans K0
  refine am_new hC (ci := 1) (RX1, TX1, 3) tyX1 [vI 0, .null, .null] dX4_init_133 rfl tyX1_ok nf1 nX4_9f.1 nX4_9f.2.1 nX4_9f.2.2 (by omega) (by show _ + 3 ≤ _; omega) ?_
  refine am_wz ?_
  refine am_heap (fun j2 e => ?_)
  have p34 : j2.2 34 = some (eO 1 [vI 0, .null, .null]) := by rw [e]; show (am_push j1 _).2 34 = _; rw [← sj]; exact am_push_at _ _
  have t34 : j2.1 = 34 + 1 := by rw [e]; show j1.1 + 1 = _; omega
  have gj : gx j1 j2 [] := by rw [e]; exact gx_push _ _ _
  rw [sj]
  clear e
  have K0j : j2.2 0 = some (kO 0 0 0) := by rw [gj.2 0 (by omega) (by simp)]; exact J0
  have K4j := (K4'.gx G (by omega) (by simp) (by simp)).gx gj (by omega) (by simp) (by simp)
  have K12j := J12.gx gj (by omega) (by simp) (by simp)
  refine am_dup hC dX4_init_136 rfl ?_
  refine am_iconst hC dX4_init_137 ?_
  refine am_aload0 hC dX4_init_138 ?_
  refine am_getf hC dX4_init_139 fX4_28 K0j rfl ?_
  refine am_aload0 hC dX4_init_142 ?_
  refine am_getf hC dX4_init_143 fX4_41 K0j rfl ?_
  refine am_I3_qN hC dX4_init_146 kX4_65 (m_Finit (s := 0) (x := 0) (y := 1) _ _ p34 t34 K4j K12j (by decide) (by decide)) (Nat.le_of_ble_eq_true rfl) (by decide) (by omega) (by omega) (fun j3 q => ?_)
  obtain ⟨s3', f1, f2, f3, gf⟩ := q
  have G2 : gx h11 j3 [12, 13, 34] := (G.wk (by simp)).tr ((gj.wk (by simp)).tr (gf.wk (by simp)))
  have G3 : gx j1 j3 [34] := (gj.wk (by simp)).tr gf
  have M0 : j3.2 0 = some (kO 0 0 0) := (G2.2 0 (by omega) (by simp)).trans K0
  have M1 : j3.2 1 = some (eR 150 (fun _ => none)) := (G2.2 1 (by omega) (by simp)).trans K1
  have M2 := (G2.2 2 (by omega) (by simp)).trans K2
  have M3 := (G2.2 3 (by omega) (by simp)).trans K3
  have MT : kT j3 := ⟨K4.gx G2 (by omega) (by simp) (by simp), (K6.gx G2 (by omega) (by simp) (by simp)).cc, K8.gx G2 (by omega) (by simp) (by simp), K10.gx G2 (by omega) (by simp) (by simp), J12.gx G3 (by omega) (by simp) (by simp), ⟨_, (G2.2 14 (by omega) (by simp)).trans K14⟩, K15.gx G2 (by omega) (by intro j _ _; simp; omega), K22.gx G2 (by omega) (by intro j _ _; simp; omega)⟩
  refine am_astore1 hC dX4_init_149 rfl ?_
  refine am_iconst hC dX4_init_150 ?_
  refine am_istore2 hC dX4_init_151 rfl ?_
  refine am_wid hC (k2 := 60) (z2 := 2000) (by omega) (by omega) ?_
  exact Kinit_loop hC hT 150 0 j3 (fun _ => none) rfl s3' M0 M1 M2 M3 MT ⟨f1, f2, f3⟩ (fun j hj => by omega)

/-! the constructors -/
theorem am_heap {x : am_X} {pc k z : Nat} {h : am_H} {ls : List (Option Value)} {st : List Value} (kk : ∀ H, H = h → am_W x pc k z H ls st) : am_W x pc k z h ls st := kk h rfl
/-- cells were made, of the old ones only those of S changed -/
def gx (h h1 : am_H) (S : List Nat) : Prop := h.1 ≤ h1.1 ∧ ∀ r, r < h.1 → r ∉ S → h1.2 r = h.2 r
theorem gx.tr {h h1 h2 : am_H} {S : List Nat} (a : gx h h1 S) (b : gx h1 h2 S) : gx h h2 S := ⟨Nat.le_trans a.1 b.1, fun r q1 q2 => (b.2 r (Nat.lt_of_lt_of_le q1 a.1) q2).trans (a.2 r q1 q2)⟩
theorem gx.wk {h h1 : am_H} {S S' : List Nat} (a : gx h h1 S) (b : ∀ q ∈ S, q ∈ S') : gx h h1 S' := ⟨a.1, fun r q1 q2 => a.2 r q1 (fun c => q2 (b r c))⟩
theorem only.gx {h h1 : am_H} {S : List Nat} (a : only h h1 S) : gx h h1 S := ⟨Nat.le_of_eq a.1.symm, fun r _ q => a.2 r q⟩
theorem gx.rf (h : am_H) (S : List Nat) : gx h h S := ⟨Nat.le_refl _, fun _ _ _ => rfl⟩
/-- what was made since is left out -/
theorem gx.cut {h h1 h2 : am_H} {S S' : List Nat} (a : gx h h1 S) (b : gx h1 h2 S') (c : ∀ q ∈ S', q < h.1 → q ∈ S) : gx h h2 S := ⟨Nat.le_trans a.1 b.1, fun r q1 q2 => (b.2 r (Nat.lt_of_lt_of_le q1 a.1) (fun e => q2 (c r e q1))).trans (a.2 r q1 q2)⟩
theorem wR.gx {h h1 : am_H} {i c n a : Nat} {S : List Nat} (w : wR h i c n a) (o : gx h h1 S) (q0 : i + 1 < h.1) (q1 : i ∉ S) (q2 : i + 1 ∉ S) : wR h1 i c n a := by
  obtain ⟨h1, h2, h3, f, h4, h5⟩ := w
  exact ⟨h1, h2, h3, f, ⟨by rw [o.2 _ (by omega) q1]; exact h4.1, by rw [o.2 _ q0 q2]; exact h4.2⟩, h5⟩
theorem wC.gx {h h1 : am_H} {i c : Nat} {S : List Nat} (w : wC h i c) (o : gx h h1 S) (q0 : i + 1 < h.1) (q1 : i ∉ S) (q2 : i + 1 ∉ S) : wC h1 i c := by
  obtain ⟨h1, n, f, h4⟩ := w
  exact ⟨h1, n, f, by rw [o.2 _ (by omega) q1]; exact h4.1, by rw [o.2 _ q0 q2]; exact h4.2⟩
theorem wD.gx {h h1 : am_H} {dv : Nat} {S : List Nat} (d : wD h dv) (o : gx h h1 S) (q0 : dv + 6 < h.1) (q : ∀ j, dv ≤ j → j ≤ dv + 6 → j ∉ S) : wD h1 dv :=
  ⟨by rw [o.2 _ (by omega) (q dv (by omega) (by omega))]; exact d.1, d.2.1.gx o (by omega) (q _ (by omega) (by omega)) (q _ (by omega) (by omega)), d.2.2.1.gx o (by omega) (q _ (by omega) (by omega)) (q _ (by omega) (by omega)), d.2.2.2.gx o (by omega) (q _ (by omega) (by omega)) (q _ (by omega) (by omega))⟩
theorem wM.gx {h h1 : am_H} {mv : Nat} {S : List Nat} (d : wM h mv) (o : gx h h1 S) (q0 : mv + 11 < h.1) (q : ∀ j, mv ≤ j → j ≤ mv + 11 → j ∉ S) : wM h1 mv := by
  obtain ⟨⟨A, B, C, D, e⟩, d1, d2, d3⟩ := d
  exact ⟨⟨A, B, C, D, by rw [o.2 _ (by omega) (q mv (by omega) (by omega))]; exact e⟩, d1.gx o (by omega) (fun j a b => q j (by omega) (by omega)), d2.gx o (by omega) (q _ (by omega) (by omega)) (q _ (by omega) (by omega)), d3.gx o (by omega) (q _ (by omega) (by omega)) (q _ (by omega) (by omega))⟩
theorem gx_push (h : am_H) (e : am_E) (S : List Nat) : gx h (am_push h e) S := ⟨Nat.le_succ _, fun r q _ => am_push_ne _ _ (by omega)⟩
theorem gx_up (h : am_H) (o : Nat) (e : am_E) : gx h (am_up h o e) [o] := ⟨Nat.le_refl _, fun r _ q => am_up_ne _ _ (fun c => q (by simp [c]))⟩
/-- a new Whole, put into a field of o -/
theorem newWp {h h2 h3 : am_H} {o room : Nat} {E : am_E} (ho : o < h.1) (hr : room ≤ 100000) (q : h2 = am_up (am_push (am_push h (eO 3 [.null, vI 0])) (eL room (fun _ => 0))) h.1 (eO 3 [.ref (am_push h (eO 3 [.null, vI 0])).1, vI 0])) (e3 : h3 = am_up h2 o E) : h3.1 = h.1 + 2 ∧ h3.2 o = some E ∧ wN h3 h.1 room 0 ∧ gx h h3 [o] := by
  subst e3
  subst q
  refine ⟨rfl, am_up_at _ _ _, ⟨Nat.pow_pos (by decide), by rw [szn_0]; exact Nat.zero_le _, hr, fun _ => 0, ⟨?_, ?_⟩, fun j hj => ?_⟩, ⟨Nat.le_add_right _ 2, fun r q1 q2 => ?_⟩⟩
  · rw [am_up_ne _ _ (by omega), am_up_at, szn_0]; rfl
  · rw [am_up_ne _ _ (by omega), am_up_ne _ _ (by omega)]; exact am_push_at _ _
  · rw [szn_0] at hj; omega
  · rw [am_up_ne _ _ (fun c => q2 (by simp [c])), am_up_ne _ _ (by omega), am_push_ne _ _ (by show r ≠ h.1 + 1; omega), am_push_ne _ _ (by omega)]
theorem m_Dinit (l : Launch) (g : am_G) {h : am_H} {dv : Nat} (h0 : h.2 dv = some (eO 0 [.null, .null, .null])) (hd : h.1 = dv + 1) :
    am_Met l g yX0_init (am_W1 yX0_init cX0_init 1 none) 3 6 174 [.ref dv] h (qN fun h1 => h1.1 = dv + 7 ∧ wD h1 dv ∧ gx h h1 [dv]) := by
  refine am_mk [some (.ref dv)] 0 rfl rfl (by decide +kernel) (fun z hl hg hC hT hin => ?_)
  refine am_aload0 hC dX0_init_0 ?_
  refine am_objInit hC dX0_init_1 oX0_1 (by decide) (by decide) ?_
  refine am_aload0 hC dX0_init_4 ?_
  refine am_new hC (ci := 3) (RX3, TX3, 2) tyX3 [.null, vI 0] dX0_init_5 rfl tyX3_ok nf3 nX0_7.1 nX0_7.2.1 nX0_7.2.2 (by omega) (by show _ + 2 ≤ _; omega) ?_
  show am_W z _ (0 + 1) (0 + 2) _ _ _
  refine am_dup hC dX0_init_8 rfl ?_
  refine am_bipush hC dX0_init_9 rfl ?_
  refine am_I1_qN hC dX0_init_11 kX0_9 (m_Winit (room := 56) _ _ (am_push_at _ _) (Nat.lt_succ_self _) (by decide)) (Nat.le_of_ble_eq_true rfl) (by decide) (by omega) (by omega) (fun h2 q => ?_)
  have h20 : h2.2 dv = some (eO 0 [.null, .null, .null]) := by rw [q, am_up_ne _ _ (by omega), am_push_ne _ _ (by show dv ≠ h.1 + 1; omega), am_push_ne _ _ (by omega)]; exact h0
  refine am_putf hC dX0_init_14 pX0_12 (fun _ => hin rfl) h20 (am_fitO _ _) (Nat.le_of_ble_eq_true rfl) ?_
  refine am_aload0 hC dX0_init_17 ?_
  refine am_heap (fun h3 e3 => ?_)
  have n1 := newWp (by omega) (by decide) q e3
  clear e3 q
  have s1 := n1.1
  rw [hd] at n1 s1
  refine am_new hC (ci := 3) (RX3, TX3, 2) tyX3 [.null, vI 0] dX0_init_18 rfl tyX3_ok nf3 nX0_7.1 nX0_7.2.1 nX0_7.2.2 (by omega) (by show _ + 2 ≤ _; omega) ?_
  show am_W z _ (0 + 1 + 1 + 1) (0 + 2 + 56 + 2) _ _ _
  refine am_dup hC dX0_init_21 rfl ?_
  refine am_bipush hC dX0_init_22 rfl ?_
  refine am_I1_qN hC dX0_init_24 kX0_9 (m_Winit (room := 56) _ _ (am_push_at _ _) (Nat.lt_succ_self _) (by decide)) (Nat.le_of_ble_eq_true rfl) (by decide) (by omega) (by omega) (fun h4 q => ?_)
  have h40 := n1.2.1
  rw [← show h4.2 dv = h3.2 dv by rw [q, am_up_ne _ _ (by omega), am_push_ne _ _ (by show dv ≠ h3.1 + 1; omega), am_push_ne _ _ (by omega)]] at h40
  refine am_putf hC dX0_init_27 pX0_18 (fun _ => hin rfl) h40 (am_fitO _ _) (Nat.le_of_ble_eq_true rfl) ?_
  refine am_aload0 hC dX0_init_30 ?_
  refine am_heap (fun h5 e3 => ?_)
  have n2 := newWp (by omega) (by decide) q e3
  clear e3 q
  have s2 := n2.1
  rw [s1] at n2 s2
  refine am_new hC (ci := 3) (RX3, TX3, 2) tyX3 [.null, vI 0] dX0_init_31 rfl tyX3_ok nf3 nX0_7.1 nX0_7.2.1 nX0_7.2.2 (by omega) (by show _ + 2 ≤ _; omega) ?_
  show am_W z _ (0 + 1 + 1 + 1 + 1 + 1) (0 + 2 + 56 + 2 + 56 + 2) _ _ _
  refine am_dup hC dX0_init_34 rfl ?_
  refine am_bipush hC dX0_init_35 rfl ?_
  refine am_I1_qN hC dX0_init_37 kX0_9 (m_Winit (room := 56) _ _ (am_push_at _ _) (Nat.lt_succ_self _) (by decide)) (Nat.le_of_ble_eq_true rfl) (by decide) (by omega) (by omega) (fun h6 q => ?_)
  have h60 := n2.2.1
  rw [← show h6.2 dv = h5.2 dv by rw [q, am_up_ne _ _ (by omega), am_push_ne _ _ (by show dv ≠ h5.1 + 1; omega), am_push_ne _ _ (by omega)]] at h60
  refine am_putf hC dX0_init_40 pX0_21 (fun _ => hin rfl) h60 (am_fitO _ _) (Nat.le_of_ble_eq_true rfl) ?_
  refine am_heap (fun h7 e3 => ?_)
  have n3 := newWp (by omega) (by decide) q e3
  clear e3 q
  have s3 := n3.1
  rw [s2] at n3 s3
  exact am_vret hC hT dX0_init_43 (by omega) (by omega) ⟨rfl, by omega, ⟨n3.2.1, (n1.2.2.1.gx (n2.2.2.2.tr (n3.2.2.2)) (by omega) (by simp <;> omega) (by simp <;> omega)).cc, (n2.2.2.1.gx n3.2.2.2 (by omega) (by simp <;> omega) (by simp <;> omega)).cc, n3.2.2.1.cc⟩, n1.2.2.2.tr (n2.2.2.2.tr n3.2.2.2)⟩

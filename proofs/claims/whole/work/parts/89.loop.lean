/-! the law's loop, and its start -/
theorem lx_S.le {x : am_X} {sb L : Nat} {xs : Nat → Int32} (h : lx_S x sb L xs) : L ≤ 320 := by
  obtain ⟨p, l, e, R, s, m, args, below, meth, c, Q, g, nL⟩ := x
  exact h.2.2.2
theorem lx_loop {x : am_X} {sb L : Nat} {xs : Nat → Int32} (hC : am_C x cL_law RL 20 600384 7289322) (hX : lx_S x sb L xs) (hst : (am_l x).stackTraces = false) (fin : ∀ (k z : Nat) (h : am_H) (ls : List (Option Value)), k ≤ 600384 → z ≤ 7289322 → lx_W x sb 1209 k z h ls []) :
    ∀ (m n k z : Nat) (h : am_H) (y5 y6 y7 : Option Value), n + m = 65 → lx_I h → k ≤ 14 * (n + 10) → z ≤ 300 * (n + 100) → lx_W x sb 23 k z h [none, some (.ref 0), some (.ref 43), some (.ref 50), some (vI ((5 * n : Nat) : Int)), y5, y6, y7] [] := by
  have hL := hX.le
  intro m
  induction m with
  | zero =>
    intro n k z h y5 y6 y7 hm I hk hz
    refine lx_iload4 hC dL_law_23 ?_
    refine lx_len hC hX dL_law_25 dL_law_26 ?_
    refine lx_iconst hC dL_law_27 ?_
    refine lx_isub hC dL_law_28 ?_
    refine lx_icmp_gt hC 1209 dL_law_29 rfl (by omega) (by omega) (fun c => fin _ _ _ _ (by omega) (by omega)) (fun c => ?_)
    exact absurd c (by omega)
  | succ m ih =>
    intro n k z h y5 y6 y7 hm I hk hz
    refine lx_iload4 hC dL_law_23 ?_
    refine lx_len hC hX dL_law_25 dL_law_26 ?_
    refine lx_iconst hC dL_law_27 ?_
    refine lx_isub hC dL_law_28 ?_
    refine lx_icmp_gt hC 1209 dL_law_29 rfl (by omega) (by omega) (fun c => fin _ _ _ _ (by omega) (by omega)) (fun c => ?_)
    refine lx_raw hC hX dL_law_32 dL_law_33 dL_law_35 (by omega) ?_
    refine lx_bipush hC dL_law_36 rfl ?_
    refine lx_iand hC 4 16 dL_law_38 (by decide) rfl rfl ?_
    obtain ⟨v, hv⟩ : ∃ v, v = scrI xs (5 * n) % 16 := ⟨_, rfl⟩
    have hr : 0 ≤ v ∧ v < 16 := by omega
    rw [← hv]
    have next : ∀ (h1 : am_H) (k1 z1 : Nat) (y5 y6 y7 : Option Value), lx_I h1 → k1 ≤ k + 14 → z1 ≤ z + 300 → lx_W x sb 1203 k1 z1 h1 [none, some (.ref 0), some (.ref 43), some (.ref 50), some (vI ((5 * n : Nat) : Int)), y5, y6, y7] [] := by
      intro h1 k1 z1 y5 y6 y7 hI a1 a2
      refine lx_iinc4 hC dL_law_1203 rfl ?_
      refine lx_goto hC 23 dL_law_1206 rfl ?_
      rw [show ((5 * n : Nat) : Int) + 5 = ((5 * (n + 1) : Nat) : Int) by omega]
      exact ih (n + 1) _ _ _ _ _ _ (by omega) hI (by omega) (by omega)
    rcases (show v = 0 ∨ v = 1 ∨ v = 2 ∨ v = 3 ∨ v = 4 ∨ v = 5 ∨ v = 6 ∨ v = 7 ∨ v = 8 ∨ v = 9 ∨ v = 10 ∨ v = 11 ∨ v = 12 ∨ v = 13 ∨ v = 14 ∨ v = 15 by omega) with c0 | c0 | c0 | c0 | c0 | c0 | c0 | c0 | c0 | c0 | c0 | c0 | c0 | c0 | c0 | c0
    · exact lx_tabIn hC 0 112 dL_law_39 (by omega) (by decide) rfl rfl (lc_value hC hX hst I (by omega) (by omega) (by omega) _ _ _ next)
    · exact lx_tabIn hC 1 244 dL_law_39 (by omega) (by decide) rfl rfl (lc_add hC hX hst I (by omega) (by omega) (by omega) _ _ _ next)
    · exact lx_tabIn hC 2 312 dL_law_39 (by omega) (by decide) rfl rfl (lc_times hC hX hst I (by omega) (by omega) (by omega) _ _ _ next)
    · exact lx_tabIn hC 3 380 dL_law_39 (by omega) (by decide) rfl rfl (lc_over hC hX hst I (by omega) (by omega) (by omega) _ _ _ next)
    · exact lx_tabIn hC 4 448 dL_law_39 (by omega) (by decide) rfl rfl (lc_order hC hX hst I (by omega) (by omega) (by omega) _ _ _ next)
    · exact lx_tabIn hC 5 516 dL_law_39 (by omega) (by decide) rfl rfl (lc_root hC hX hst I (by omega) (by omega) (by omega) _ _ _ next)
    · exact lx_tabIn hC 6 584 dL_law_39 (by omega) (by decide) rfl rfl (lc_end hC hX hst I (by omega) (by omega) (by omega) _ _ _ next)
    · exact lx_tabIn hC 7 652 dL_law_39 (by omega) (by decide) rfl rfl (lc_round hC hX hst I (by omega) (by omega) (by omega) _ _ _ next)
    · exact lx_tabIn hC 8 764 dL_law_39 (by omega) (by decide) rfl rfl (lc_turn hC hX hst I (by omega) (by omega) (by omega) _ _ _ next)
    · exact lx_tabIn hC 9 844 dL_law_39 (by omega) (by decide) rfl rfl (lc_weight hC hX hst I (by omega) (by omega) (by omega) _ _ _ next)
    · exact lx_tabIn hC 10 901 dL_law_39 (by omega) (by decide) rfl rfl (lc_clearWeights hC hX hst I (by omega) (by omega) (by omega) _ _ _ next)
    · exact lx_tabIn hC 11 912 dL_law_39 (by omega) (by decide) rfl rfl (lc_share hC hX hst I (by omega) (by omega) (by omega) _ _ _ next)
    · exact lx_tabIn hC 12 1011 dL_law_39 (by omega) (by decide) rfl rfl (lc_digit hC hX hst I (by omega) (by omega) (by omega) _ _ _ next)
    · exact lx_tabIn hC 13 1091 dL_law_39 (by omega) (by decide) rfl rfl (lc_bits hC hX hst I (by omega) (by omega) (by omega) _ _ _ next)
    · exact lx_tabIn hC 14 1147 dL_law_39 (by omega) (by decide) rfl rfl (lc_sign hC hX hst I (by omega) (by omega) (by omega) _ _ _ next)
    · exact lx_tabOut hC 1203 dL_law_39 ⟨by omega, by omega⟩ (by decide) rfl (next _ _ _ _ _ _ I (by omega) (by omega))
theorem nf4 : ∀ (b j : Nat), j < 15 → defaultValue (tyX4 j) = vp_V ([Value.null, .null, vI 0, .null, vI 0, .null, vI 0, .null, .null, .null, .null, .null, .null, .null, .null].map (am_c b)) j := fun b j hj => by
  match j, hj with
  | 0, _ => rfl
  | 1, _ => rfl
  | 2, _ => rfl
  | 3, _ => rfl
  | 4, _ => rfl
  | 5, _ => rfl
  | 6, _ => rfl
  | 7, _ => rfl
  | 8, _ => rfl
  | 9, _ => rfl
  | 10, _ => rfl
  | 11, _ => rfl
  | 12, _ => rfl
  | 13, _ => rfl
  | 14, _ => rfl
theorem nf5 : ∀ (b j : Nat), j < 11 → defaultValue (tyX5 j) = vp_V ([vI 0, vI 0, .null, vI 0, .null, .null, .null, vI 0, .null, vI 0, .null].map (am_c b)) j := fun b j hj => by
  match j, hj with
  | 0, _ => rfl
  | 1, _ => rfl
  | 2, _ => rfl
  | 3, _ => rfl
  | 4, _ => rfl
  | 5, _ => rfl
  | 6, _ => rfl
  | 7, _ => rfl
  | 8, _ => rfl
  | 9, _ => rfl
  | 10, _ => rfl
theorem lx_start {x : am_X} {sb L : Nat} {xs : Nat → Int32} (hC : am_C x cL_law RL 20 600384 7289322) (hX : lx_S x sb L xs) (hst : (am_l x).stackTraces = false) (fin : ∀ (k z : Nat) (h : am_H) (ls : List (Option Value)), k ≤ 600384 → z ≤ 7289322 → lx_W x sb 1209 k z h ls []) :
    lx_W x sb 0 0 0 (0, fun _ => none) [none, none, none, none, none, none, none, none] [] := by
  refine lx_new hC (ci := 4) (RX4, TX4, 15) tyX4 [.null, .null, vI 0, .null, vI 0, .null, vI 0, .null, .null, .null, .null, .null, .null, .null, .null] dL_law_0 rfl tyX4_ok nf4 nL_8.1 nL_8.2.1 nL_8.2.2 (by omega) (by show 0 + 15 ≤ _; omega) ?_
  refine lx_heap (fun h1 q1 => ?_)
  have a1 : h1.1 = 1 := by rw [q1]; rfl
  have b1 : h1.2 0 = some (eO 4 [.null, .null, vI 0, .null, vI 0, .null, vI 0, .null, .null, .null, .null, .null, .null, .null, .null]) := by rw [q1]; exact am_push_at _ _
  clear q1
  refine lx_wid hC (k2 := 1) (z2 := 15) (by omega) (by show 0 + 15 ≤ 15; omega) ?_
  refine lx_dup hC dL_law_3 rfl ?_
  refine lx_I0_qN hC dL_law_4 kL_60 (m_Kinit _ _ b1 a1) (Nat.le_of_ble_eq_true rfl) (by decide) (by omega) (by omega) (fun h2 q => ?_)
  obtain ⟨a2, v2⟩ := q
  refine lx_astore1 hC dL_law_7 rfl ?_
  refine lx_new hC (ci := 5) (RX5, TX5, 11) tyX5 [vI 0, vI 0, .null, vI 0, .null, .null, .null, vI 0, .null, vI 0, .null] dL_law_8 rfl tyX5_ok nf5 nL_61.1 nL_61.2.1 nL_61.2.2 (by omega) (by show _ + 11 ≤ _; omega) ?_
  rw [a2]
  refine lx_heap (fun h3 q3 => ?_)
  have a3 : h3.1 = 44 := by rw [q3]; show h2.1 + 1 = 44; omega
  have b3 : h3.2 43 = some (eO 5 [vI 0, vI 0, .null, vI 0, .null, .null, .null, vI 0, .null, vI 0, .null]) := by rw [q3, ← a2]; exact am_push_at _ _
  have g3 : gx h2 h3 [43] := by rw [q3]; exact gx_push _ _ _
  clear q3
  have v3 := v2.on g3 (by omega) (fun j hj => by simp at hj; omega)
  refine lx_wid hC (k2 := 100) (z2 := 3000) (by omega) (by show _ + 11 ≤ 3000; omega) ?_
  refine lx_dup hC dL_law_11 rfl ?_
  refine lx_I0_qN hC dL_law_12 kL_63 (m_Minit_M _ _ b3 a3) (Nat.le_of_ble_eq_true rfl) (by decide) (by omega) (by omega) (fun h4 q => ?_)
  obtain ⟨a4, e4, g4⟩ := q
  have v4 := v3.on g4 (by omega) (fun j hj => by simp at hj; omega)
  refine lx_astore2 hC dL_law_15 rfl ?_
  refine lx_iconst hC dL_law_16 ?_
  refine lx_newL hC 1 dL_law_17 rfl (by decide) (by omega) (by omega) ?_
  rw [a4]
  refine lx_heap (fun h5 q5 => ?_)
  have a5 : h5.1 = 51 := by rw [q5]; show h4.1 + 1 = 51; omega
  have b5 : h5.2 50 = some (eL 1 (fun _ => 0)) := by rw [q5, ← a4]; exact am_push_at _ _
  have g5 : gx h4 h5 [50] := by rw [q5]; exact gx_push _ _ _
  clear q5
  refine lx_astore3 hC dL_law_19 rfl ?_
  refine lx_iconst hC dL_law_20 ?_
  refine lx_istore4 hC dL_law_21 rfl ?_
  exact lx_loop hC hX hst fin 65 0 _ _ _ none none none rfl ⟨s0, _, _, _, _, v4.on g5 (by omega) (fun j hj => by simp at hj; omega), e4.gx g5 (by omega) (fun j hj => by simp at hj; omega), ok_0, by omega, b5⟩ (by omega) (by omega)

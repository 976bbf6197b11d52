/-! the law's static methods: the words of their calls, what they catch -/
theorem qam_AIO : Cond.classLink RL 19 am_AIO ∈ am_ws := am_in (List.mem_of_getElem? (i := 429) (by decide +kernel)) rfl
theorem tam_AIO : Cond.castable am_AIO am_AIO ∈ lw_tbl := List.mem_of_getElem? (i := 444) (by decide +kernel)
theorem qam_IAE : Cond.classLink RL 33 am_IAE ∈ am_ws := am_in (List.mem_of_getElem? (i := 495) (by decide +kernel)) rfl
theorem tam_IAE : Cond.castable am_IAE am_IAE ∈ lw_tbl := List.mem_of_getElem? (i := 502) (by decide +kernel)
theorem qam_ARE : Cond.classLink RL 13 am_ARE ∈ am_ws := am_in (List.mem_of_getElem? (i := 248) (by decide +kernel)) rfl
theorem tam_ARE : Cond.castable am_ARE am_ARE ∈ lw_tbl := List.mem_of_getElem? (i := 296) (by decide +kernel)
theorem hL_value : am_KSH RL 66 yL_value cL_value 7 (some .int) [(0, 11, 14, 13)] 4 := ⟨am_in (List.mem_of_getElem? (i := 39) (by decide +kernel)) rfl, am_in (List.mem_of_getElem? (i := 247) (by decide +kernel)) rfl, by decide +kernel, by decide, am_in (List.mem_of_getElem? (i := 245) (by decide +kernel)) rfl, am_in (List.mem_of_getElem? (i := 246) (by decide +kernel)) rfl⟩
theorem ca_value_am_ARE : am_Ca RL cL_value 7 6 [(0, 11, 14, 13)] am_ARE 1 := ⟨[], (0, 11, 14, 13), [], rfl, fun _ h => absurd h List.not_mem_nil, by decide, by decide, qam_ARE, tam_ARE, Or.inl ⟨6, by decide, dL_value_14, dL_value_16, dL_value_17⟩⟩
theorem hL_add : am_KSH RL 76 yL_add cL_add 5 (some .int) [(0, 10, 13, 19)] 4 := ⟨am_in (List.mem_of_getElem? (i := 39) (by decide +kernel)) rfl, am_in (List.mem_of_getElem? (i := 428) (by decide +kernel)) rfl, by decide +kernel, by decide, am_in (List.mem_of_getElem? (i := 426) (by decide +kernel)) rfl, am_in (List.mem_of_getElem? (i := 427) (by decide +kernel)) rfl⟩
theorem ca_add_am_AIO : am_Ca RL cL_add 5 5 [(0, 10, 13, 19)] am_AIO 1 := ⟨[], (0, 10, 13, 19), [], rfl, fun _ h => absurd h List.not_mem_nil, by decide, by decide, qam_AIO, tam_AIO, Or.inl ⟨4, by decide, dL_add_13, dL_add_15, dL_add_16⟩⟩
theorem hL_times : am_KSH RL 80 yL_times cL_times 5 (some .int) [(0, 10, 13, 19)] 4 := ⟨am_in (List.mem_of_getElem? (i := 39) (by decide +kernel)) rfl, am_in (List.mem_of_getElem? (i := 473) (by decide +kernel)) rfl, by decide +kernel, by decide, am_in (List.mem_of_getElem? (i := 471) (by decide +kernel)) rfl, am_in (List.mem_of_getElem? (i := 472) (by decide +kernel)) rfl⟩
theorem ca_times_am_AIO : am_Ca RL cL_times 5 5 [(0, 10, 13, 19)] am_AIO 1 := ⟨[], (0, 10, 13, 19), [], rfl, fun _ h => absurd h List.not_mem_nil, by decide, by decide, qam_AIO, tam_AIO, Or.inl ⟨4, by decide, dL_times_13, dL_times_15, dL_times_16⟩⟩
theorem hL_over : am_KSH RL 83 yL_over cL_over 5 (some .int) [(0, 10, 13, 19), (0, 10, 17, 13)] 4 := ⟨am_in (List.mem_of_getElem? (i := 39) (by decide +kernel)) rfl, am_in (List.mem_of_getElem? (i := 480) (by decide +kernel)) rfl, by decide +kernel, by decide, am_in (List.mem_of_getElem? (i := 478) (by decide +kernel)) rfl, am_in (List.mem_of_getElem? (i := 479) (by decide +kernel)) rfl⟩
theorem ca_over_am_AIO : am_Ca RL cL_over 5 5 [(0, 10, 13, 19), (0, 10, 17, 13)] am_AIO 1 := ⟨[], (0, 10, 13, 19), [(0, 10, 17, 13)], rfl, fun _ h => absurd h List.not_mem_nil, by decide, by decide, qam_AIO, tam_AIO, Or.inl ⟨4, by decide, dL_over_13, dL_over_15, dL_over_16⟩⟩
theorem ca_over_am_ARE : am_Ca RL cL_over 5 5 [(0, 10, 13, 19), (0, 10, 17, 13)] am_ARE 2 := ⟨[(0, 10, 13, 19)], (0, 10, 17, 13), [], rfl, List.forall_mem_cons.mpr ⟨⟨by decide, am_AIO, qam_AIO, Or.inl ⟨rfl, rfl⟩⟩, fun _ h => absurd h List.not_mem_nil⟩, by decide, by decide, qam_ARE, tam_ARE, Or.inl ⟨4, by decide, dL_over_17, dL_over_19, dL_over_20⟩⟩
theorem hL_order : am_KSH RL 86 yL_order cL_order 5 (some .int) [(0, 10, 13, 19)] 4 := ⟨am_in (List.mem_of_getElem? (i := 39) (by decide +kernel)) rfl, am_in (List.mem_of_getElem? (i := 487) (by decide +kernel)) rfl, by decide +kernel, by decide, am_in (List.mem_of_getElem? (i := 485) (by decide +kernel)) rfl, am_in (List.mem_of_getElem? (i := 486) (by decide +kernel)) rfl⟩
theorem ca_order_am_AIO : am_Ca RL cL_order 5 5 [(0, 10, 13, 19)] am_AIO 1 := ⟨[], (0, 10, 13, 19), [], rfl, fun _ h => absurd h List.not_mem_nil, by decide, by decide, qam_AIO, tam_AIO, Or.inl ⟨4, by decide, dL_order_13, dL_order_15, dL_order_16⟩⟩
theorem hL_root : am_KSH RL 89 yL_root cL_root 5 (some .int) [(0, 10, 13, 19), (0, 10, 17, 33)] 4 := ⟨am_in (List.mem_of_getElem? (i := 39) (by decide +kernel)) rfl, am_in (List.mem_of_getElem? (i := 494) (by decide +kernel)) rfl, by decide +kernel, by decide, am_in (List.mem_of_getElem? (i := 492) (by decide +kernel)) rfl, am_in (List.mem_of_getElem? (i := 493) (by decide +kernel)) rfl⟩
theorem ca_root_am_AIO : am_Ca RL cL_root 5 5 [(0, 10, 13, 19), (0, 10, 17, 33)] am_AIO 1 := ⟨[], (0, 10, 13, 19), [(0, 10, 17, 33)], rfl, fun _ h => absurd h List.not_mem_nil, by decide, by decide, qam_AIO, tam_AIO, Or.inl ⟨4, by decide, dL_root_13, dL_root_15, dL_root_16⟩⟩
theorem ca_root_am_IAE : am_Ca RL cL_root 5 5 [(0, 10, 13, 19), (0, 10, 17, 33)] am_IAE 2 := ⟨[(0, 10, 13, 19)], (0, 10, 17, 33), [], rfl, List.forall_mem_cons.mpr ⟨⟨by decide, am_AIO, qam_AIO, Or.inr (Or.inl ⟨rfl, rfl⟩)⟩, fun _ h => absurd h List.not_mem_nil⟩, by decide, by decide, qam_IAE, tam_IAE, Or.inl ⟨4, by decide, dL_root_17, dL_root_19, dL_root_20⟩⟩
theorem hL_end : am_KSH RL 92 yL_end cL_end 5 (some .int) [(0, 10, 13, 19)] 4 := ⟨am_in (List.mem_of_getElem? (i := 39) (by decide +kernel)) rfl, am_in (List.mem_of_getElem? (i := 537) (by decide +kernel)) rfl, by decide +kernel, by decide, am_in (List.mem_of_getElem? (i := 535) (by decide +kernel)) rfl, am_in (List.mem_of_getElem? (i := 536) (by decide +kernel)) rfl⟩
theorem ca_end_am_AIO : am_Ca RL cL_end 5 5 [(0, 10, 13, 19)] am_AIO 1 := ⟨[], (0, 10, 13, 19), [], rfl, fun _ h => absurd h List.not_mem_nil, by decide, by decide, qam_AIO, tam_AIO, Or.inl ⟨4, by decide, dL_end_13, dL_end_15, dL_end_16⟩⟩
theorem hL_round : am_KSH RL 95 yL_round cL_round 7 (some .int) [(0, 12, 15, 19), (0, 12, 19, 33)] 5 := ⟨am_in (List.mem_of_getElem? (i := 39) (by decide +kernel)) rfl, am_in (List.mem_of_getElem? (i := 546) (by decide +kernel)) rfl, by decide +kernel, by decide, am_in (List.mem_of_getElem? (i := 544) (by decide +kernel)) rfl, am_in (List.mem_of_getElem? (i := 545) (by decide +kernel)) rfl⟩
theorem ca_round_am_AIO : am_Ca RL cL_round 7 7 [(0, 12, 15, 19), (0, 12, 19, 33)] am_AIO 1 := ⟨[], (0, 12, 15, 19), [(0, 12, 19, 33)], rfl, fun _ h => absurd h List.not_mem_nil, by decide, by decide, qam_AIO, tam_AIO, Or.inl ⟨6, by decide, dL_round_15, dL_round_17, dL_round_18⟩⟩
theorem ca_round_am_IAE : am_Ca RL cL_round 7 7 [(0, 12, 15, 19), (0, 12, 19, 33)] am_IAE 2 := ⟨[(0, 12, 15, 19)], (0, 12, 19, 33), [], rfl, List.forall_mem_cons.mpr ⟨⟨by decide, am_AIO, qam_AIO, Or.inr (Or.inl ⟨rfl, rfl⟩)⟩, fun _ h => absurd h List.not_mem_nil⟩, by decide, by decide, qam_IAE, tam_IAE, Or.inl ⟨6, by decide, dL_round_19, dL_round_21, dL_round_22⟩⟩
theorem hL_turn : am_KSH RL 99 yL_turn cL_turn 6 (some .int) [(0, 12, 15, 19)] 5 := ⟨am_in (List.mem_of_getElem? (i := 39) (by decide +kernel)) rfl, am_in (List.mem_of_getElem? (i := 563) (by decide +kernel)) rfl, by decide +kernel, by decide, am_in (List.mem_of_getElem? (i := 561) (by decide +kernel)) rfl, am_in (List.mem_of_getElem? (i := 562) (by decide +kernel)) rfl⟩
theorem ca_turn_am_AIO : am_Ca RL cL_turn 6 7 [(0, 12, 15, 19)] am_AIO 1 := ⟨[], (0, 12, 15, 19), [], rfl, fun _ h => absurd h List.not_mem_nil, by decide, by decide, qam_AIO, tam_AIO, Or.inl ⟨5, by decide, dL_turn_15, dL_turn_17, dL_turn_18⟩⟩
theorem hL_share : am_KSH RL 112 yL_share cL_share 6 (some .int) [(0, 10, 13, 19), (0, 10, 17, 33), (0, 10, 21, 13)] 4 := ⟨am_in (List.mem_of_getElem? (i := 39) (by decide +kernel)) rfl, am_in (List.mem_of_getElem? (i := 576) (by decide +kernel)) rfl, by decide +kernel, by decide, am_in (List.mem_of_getElem? (i := 574) (by decide +kernel)) rfl, am_in (List.mem_of_getElem? (i := 575) (by decide +kernel)) rfl⟩
theorem ca_share_am_AIO : am_Ca RL cL_share 6 6 [(0, 10, 13, 19), (0, 10, 17, 33), (0, 10, 21, 13)] am_AIO 1 := ⟨[], (0, 10, 13, 19), [(0, 10, 17, 33), (0, 10, 21, 13)], rfl, fun _ h => absurd h List.not_mem_nil, by decide, by decide, qam_AIO, tam_AIO, Or.inl ⟨5, by decide, dL_share_13, dL_share_15, dL_share_16⟩⟩
theorem ca_share_am_IAE : am_Ca RL cL_share 6 6 [(0, 10, 13, 19), (0, 10, 17, 33), (0, 10, 21, 13)] am_IAE 2 := ⟨[(0, 10, 13, 19)], (0, 10, 17, 33), [(0, 10, 21, 13)], rfl, List.forall_mem_cons.mpr ⟨⟨by decide, am_AIO, qam_AIO, Or.inr (Or.inl ⟨rfl, rfl⟩)⟩, fun _ h => absurd h List.not_mem_nil⟩, by decide, by decide, qam_IAE, tam_IAE, Or.inl ⟨5, by decide, dL_share_17, dL_share_19, dL_share_20⟩⟩
theorem ca_share_am_ARE : am_Ca RL cL_share 6 6 [(0, 10, 13, 19), (0, 10, 17, 33), (0, 10, 21, 13)] am_ARE 3 := ⟨[(0, 10, 13, 19), (0, 10, 17, 33)], (0, 10, 21, 13), [], rfl, List.forall_mem_cons.mpr ⟨⟨by decide, am_AIO, qam_AIO, Or.inl ⟨rfl, rfl⟩⟩, List.forall_mem_cons.mpr ⟨⟨by decide, am_IAE, qam_IAE, Or.inr (Or.inr ⟨rfl, rfl⟩)⟩, fun _ h => absurd h List.not_mem_nil⟩⟩, by decide, by decide, qam_ARE, tam_ARE, Or.inl ⟨5, by decide, dL_share_21, dL_share_23, dL_share_24⟩⟩
theorem hL_digit : am_KSH RL 116 yL_digit cL_digit 6 (some .int) [(0, 12, 15, 19), (0, 12, 19, 33)] 5 := ⟨am_in (List.mem_of_getElem? (i := 39) (by decide +kernel)) rfl, am_in (List.mem_of_getElem? (i := 598) (by decide +kernel)) rfl, by decide +kernel, by decide, am_in (List.mem_of_getElem? (i := 596) (by decide +kernel)) rfl, am_in (List.mem_of_getElem? (i := 597) (by decide +kernel)) rfl⟩
theorem ca_digit_am_AIO : am_Ca RL cL_digit 6 7 [(0, 12, 15, 19), (0, 12, 19, 33)] am_AIO 1 := ⟨[], (0, 12, 15, 19), [(0, 12, 19, 33)], rfl, fun _ h => absurd h List.not_mem_nil, by decide, by decide, qam_AIO, tam_AIO, Or.inl ⟨5, by decide, dL_digit_15, dL_digit_17, dL_digit_18⟩⟩
theorem ca_digit_am_IAE : am_Ca RL cL_digit 6 7 [(0, 12, 15, 19), (0, 12, 19, 33)] am_IAE 2 := ⟨[(0, 12, 15, 19)], (0, 12, 19, 33), [], rfl, List.forall_mem_cons.mpr ⟨⟨by decide, am_AIO, qam_AIO, Or.inr (Or.inl ⟨rfl, rfl⟩)⟩, fun _ h => absurd h List.not_mem_nil⟩, by decide, by decide, qam_IAE, tam_IAE, Or.inl ⟨5, by decide, dL_digit_19, dL_digit_21, dL_digit_22⟩⟩
theorem hL_bits : am_KSH RL 119 yL_bits cL_bits 4 (some .int) [(0, 9, 12, 19)] 3 := ⟨am_in (List.mem_of_getElem? (i := 39) (by decide +kernel)) rfl, am_in (List.mem_of_getElem? (i := 621) (by decide +kernel)) rfl, by decide +kernel, by decide, am_in (List.mem_of_getElem? (i := 619) (by decide +kernel)) rfl, am_in (List.mem_of_getElem? (i := 620) (by decide +kernel)) rfl⟩
theorem ca_bits_am_AIO : am_Ca RL cL_bits 4 4 [(0, 9, 12, 19)] am_AIO 1 := ⟨[], (0, 9, 12, 19), [], rfl, fun _ h => absurd h List.not_mem_nil, by decide, by decide, qam_AIO, tam_AIO, Or.inr ⟨by decide, dL_bits_12, dL_bits_13, dL_bits_14⟩⟩
theorem hL_sign : am_KSH RL 123 yL_sign cL_sign 4 (some .int) [(0, 9, 12, 19)] 3 := ⟨am_in (List.mem_of_getElem? (i := 39) (by decide +kernel)) rfl, am_in (List.mem_of_getElem? (i := 628) (by decide +kernel)) rfl, by decide +kernel, by decide, am_in (List.mem_of_getElem? (i := 626) (by decide +kernel)) rfl, am_in (List.mem_of_getElem? (i := 627) (by decide +kernel)) rfl⟩
theorem ca_sign_am_AIO : am_Ca RL cL_sign 4 4 [(0, 9, 12, 19)] am_AIO 1 := ⟨[], (0, 9, 12, 19), [], rfl, fun _ h => absurd h List.not_mem_nil, by decide, by decide, qam_AIO, tam_AIO, Or.inr ⟨by decide, dL_sign_12, dL_sign_13, dL_sign_14⟩⟩
/-! what every call answers: code, state, value -/
noncomputable def sp_value (s : aS) (a b : Int) : aA := cIf (b ≠ 0) ((0, (aValue s a b).2, (aValue s a b).1)) (1, s, 0)
noncomputable def sp_add (s : aS) (i j : Int) : aA := cIf (okV i ∧ okV j) ((0, (aAdd s i.toNat j.toNat).2, (aAdd s i.toNat j.toNat).1)) (1, s, 0)
noncomputable def sp_times (s : aS) (i j : Int) : aA := cIf (okV i ∧ okV j) ((0, (aTimes s i.toNat j.toNat).2, (aTimes s i.toNat j.toNat).1)) (1, s, 0)
noncomputable def sp_over (s : aS) (i j : Int) : aA := cIf (okV i ∧ okV j) (cIf ((s.2.1 j.toNat).1 ≠ 0) ((0, (aOver s i.toNat j.toNat).2, (aOver s i.toNat j.toNat).1)) (2, s, 0)) (1, s, 0)
noncomputable def sp_order (s : aS) (i j : Int) : aA := cIf (okV i ∧ okV j) ((0, s, aOrder s i.toNat j.toNat)) (1, s, 0)
noncomputable def sp_root (s : aS) (i p : Int) : aA := cIf (okV i) (cIf (okB (s.2.1 i.toNat).1 p) ((0, (aRoot s i.toNat p.toNat).2, (aRoot s i.toNat p.toNat).1)) (2, s, 0)) (1, s, 0)
noncomputable def sp_end (s : aS) (r v : Int) : aA := cIf (okE r v) ((0, s, s.2.2.2.1 (2 * r + v).toNat)) (1, s, 0)
noncomputable def sp_round (s : aS) (i rule unit : Int) : aA := cIf (okV i) (cIf (okQ rule unit) ((0, (aRound s i.toNat rule unit.natAbs).2, (aRound s i.toNat rule unit.natAbs).1)) (2, s, 0)) (1, s, 0)
noncomputable def sp_turn (s : aS) (i a b : Int) : aA := cIf (okV i ∧ okU a ∧ okU b) ((0, (aTurn s i.toNat a.toNat b.toNat).2, (aTurn s i.toNat a.toNat b.toNat).1)) (1, s, 0)
noncomputable def sp_share (s : aS) (whole k : Int) : aA := cIf (okW k) (cIf (okH whole) (cIf (wS s.2.2.2.2.2 32 ≠ 0) ((0, s, aShare s whole k.toNat)) (3, s, 0)) (2, s, 0)) (1, s, 0)
noncomputable def sp_digit (s : aS) (i part j : Int) : aA := cIf (okV i) (cIf (okD part) (cIf (0 ≤ j ∧ j < (dlen (aPart s i.toNat part) : Int)) ((0, s, aDigit (aPart s i.toNat part) j.toNat)) (1, s, 0)) (2, s, 0)) (1, s, 0)
noncomputable def sp_bits (s : aS) (i : Int) : aA := cIf (okV i) ((0, s, aBits s i.toNat)) (1, s, 0)
noncomputable def sp_sign (s : aS) (i : Int) : aA := cIf (okV i) ((0, s, (s.2.1 i.toNat).1)) (1, s, 0)
theorem sk_value {s : aS} {a b : Int} (ok : aOK s) : aOK (sp_value s a b).2.1 ∧ 0 ≤ (sp_value s a b).1 ∧ (sp_value s a b).1 ≤ 3 := by
  by_cases c0 : b ≠ 0
  rotate_left
  · rw [sp_value, cIf_n c0]; exact ⟨ok, by show (0 : Int) ≤ 1; decide, by show (1 : Int) ≤ 3; decide⟩
  rw [sp_value, cIf_y c0]
  exact ⟨ok_value ok c0, by show (0 : Int) ≤ 0; decide, by show (0 : Int) ≤ 3; decide⟩
theorem sk_add {s : aS} {i j : Int} (ok : aOK s) : aOK (sp_add s i j).2.1 ∧ 0 ≤ (sp_add s i j).1 ∧ (sp_add s i j).1 ≤ 3 := by
  by_cases c0 : okV i ∧ okV j
  rotate_left
  · rw [sp_add, cIf_n c0]; exact ⟨ok, by show (0 : Int) ≤ 1; decide, by show (1 : Int) ≤ 3; decide⟩
  rw [sp_add, cIf_y c0]
  exact ⟨ok_add ok c0.1 c0.2, by show (0 : Int) ≤ 0; decide, by show (0 : Int) ≤ 3; decide⟩
theorem sk_times {s : aS} {i j : Int} (ok : aOK s) : aOK (sp_times s i j).2.1 ∧ 0 ≤ (sp_times s i j).1 ∧ (sp_times s i j).1 ≤ 3 := by
  by_cases c0 : okV i ∧ okV j
  rotate_left
  · rw [sp_times, cIf_n c0]; exact ⟨ok, by show (0 : Int) ≤ 1; decide, by show (1 : Int) ≤ 3; decide⟩
  rw [sp_times, cIf_y c0]
  exact ⟨ok_times ok c0.1 c0.2, by show (0 : Int) ≤ 0; decide, by show (0 : Int) ≤ 3; decide⟩
theorem sk_over {s : aS} {i j : Int} (ok : aOK s) : aOK (sp_over s i j).2.1 ∧ 0 ≤ (sp_over s i j).1 ∧ (sp_over s i j).1 ≤ 3 := by
  by_cases c0 : okV i ∧ okV j
  rotate_left
  · rw [sp_over, cIf_n c0]; exact ⟨ok, by show (0 : Int) ≤ 1; decide, by show (1 : Int) ≤ 3; decide⟩
  by_cases c1 : (s.2.1 j.toNat).1 ≠ 0
  rotate_left
  · rw [sp_over, cIf_y c0, cIf_n c1]; exact ⟨ok, by show (0 : Int) ≤ 2; decide, by show (2 : Int) ≤ 3; decide⟩
  rw [sp_over, cIf_y c0, cIf_y c1]
  exact ⟨ok_over ok c0.1 c0.2 c1, by show (0 : Int) ≤ 0; decide, by show (0 : Int) ≤ 3; decide⟩
theorem sk_order {s : aS} {i j : Int} (ok : aOK s) : aOK (sp_order s i j).2.1 ∧ 0 ≤ (sp_order s i j).1 ∧ (sp_order s i j).1 ≤ 3 := by
  by_cases c0 : okV i ∧ okV j
  rotate_left
  · rw [sp_order, cIf_n c0]; exact ⟨ok, by show (0 : Int) ≤ 1; decide, by show (1 : Int) ≤ 3; decide⟩
  rw [sp_order, cIf_y c0]
  exact ⟨ok, by show (0 : Int) ≤ 0; decide, by show (0 : Int) ≤ 3; decide⟩
theorem sk_root {s : aS} {i p : Int} (ok : aOK s) : aOK (sp_root s i p).2.1 ∧ 0 ≤ (sp_root s i p).1 ∧ (sp_root s i p).1 ≤ 3 := by
  by_cases c0 : okV i
  rotate_left
  · rw [sp_root, cIf_n c0]; exact ⟨ok, by show (0 : Int) ≤ 1; decide, by show (1 : Int) ≤ 3; decide⟩
  by_cases c1 : okB (s.2.1 i.toNat).1 p
  rotate_left
  · rw [sp_root, cIf_y c0, cIf_n c1]; exact ⟨ok, by show (0 : Int) ≤ 2; decide, by show (2 : Int) ≤ 3; decide⟩
  rw [sp_root, cIf_y c0, cIf_y c1]
  exact ⟨ok_root ok, by show (0 : Int) ≤ 0; decide, by show (0 : Int) ≤ 3; decide⟩
theorem sk_end {s : aS} {r v : Int} (ok : aOK s) : aOK (sp_end s r v).2.1 ∧ 0 ≤ (sp_end s r v).1 ∧ (sp_end s r v).1 ≤ 3 := by
  by_cases c0 : okE r v
  rotate_left
  · rw [sp_end, cIf_n c0]; exact ⟨ok, by show (0 : Int) ≤ 1; decide, by show (1 : Int) ≤ 3; decide⟩
  rw [sp_end, cIf_y c0]
  exact ⟨ok, by show (0 : Int) ≤ 0; decide, by show (0 : Int) ≤ 3; decide⟩
theorem sk_round {s : aS} {i rule unit : Int} (ok : aOK s) : aOK (sp_round s i rule unit).2.1 ∧ 0 ≤ (sp_round s i rule unit).1 ∧ (sp_round s i rule unit).1 ≤ 3 := by
  by_cases c0 : okV i
  rotate_left
  · rw [sp_round, cIf_n c0]; exact ⟨ok, by show (0 : Int) ≤ 1; decide, by show (1 : Int) ≤ 3; decide⟩
  by_cases c1 : okQ rule unit
  rotate_left
  · rw [sp_round, cIf_y c0, cIf_n c1]; exact ⟨ok, by show (0 : Int) ≤ 2; decide, by show (2 : Int) ≤ 3; decide⟩
  rw [sp_round, cIf_y c0, cIf_y c1]
  exact ⟨ok_round ok c0, by show (0 : Int) ≤ 0; decide, by show (0 : Int) ≤ 3; decide⟩
theorem sk_turn {s : aS} {i a b : Int} (ok : aOK s) : aOK (sp_turn s i a b).2.1 ∧ 0 ≤ (sp_turn s i a b).1 ∧ (sp_turn s i a b).1 ≤ 3 := by
  by_cases c0 : okV i ∧ okU a ∧ okU b
  rotate_left
  · rw [sp_turn, cIf_n c0]; exact ⟨ok, by show (0 : Int) ≤ 1; decide, by show (1 : Int) ≤ 3; decide⟩
  rw [sp_turn, cIf_y c0]
  exact ⟨ok_turn ok c0.1, by show (0 : Int) ≤ 0; decide, by show (0 : Int) ≤ 3; decide⟩
theorem sk_share {s : aS} {whole k : Int} (ok : aOK s) : aOK (sp_share s whole k).2.1 ∧ 0 ≤ (sp_share s whole k).1 ∧ (sp_share s whole k).1 ≤ 3 := by
  by_cases c0 : okW k
  rotate_left
  · rw [sp_share, cIf_n c0]; exact ⟨ok, by show (0 : Int) ≤ 1; decide, by show (1 : Int) ≤ 3; decide⟩
  by_cases c1 : okH whole
  rotate_left
  · rw [sp_share, cIf_y c0, cIf_n c1]; exact ⟨ok, by show (0 : Int) ≤ 2; decide, by show (2 : Int) ≤ 3; decide⟩
  by_cases c2 : wS s.2.2.2.2.2 32 ≠ 0
  rotate_left
  · rw [sp_share, cIf_y c0, cIf_y c1, cIf_n c2]; exact ⟨ok, by show (0 : Int) ≤ 3; decide, by show (3 : Int) ≤ 3; decide⟩
  rw [sp_share, cIf_y c0, cIf_y c1, cIf_y c2]
  exact ⟨ok, by show (0 : Int) ≤ 0; decide, by show (0 : Int) ≤ 3; decide⟩
theorem sk_digit {s : aS} {i part j : Int} (ok : aOK s) : aOK (sp_digit s i part j).2.1 ∧ 0 ≤ (sp_digit s i part j).1 ∧ (sp_digit s i part j).1 ≤ 3 := by
  by_cases c0 : okV i
  rotate_left
  · rw [sp_digit, cIf_n c0]; exact ⟨ok, by show (0 : Int) ≤ 1; decide, by show (1 : Int) ≤ 3; decide⟩
  by_cases c1 : okD part
  rotate_left
  · rw [sp_digit, cIf_y c0, cIf_n c1]; exact ⟨ok, by show (0 : Int) ≤ 2; decide, by show (2 : Int) ≤ 3; decide⟩
  by_cases c2 : 0 ≤ j ∧ j < (dlen (aPart s i.toNat part) : Int)
  rotate_left
  · rw [sp_digit, cIf_y c0, cIf_y c1, cIf_n c2]; exact ⟨ok, by show (0 : Int) ≤ 1; decide, by show (1 : Int) ≤ 3; decide⟩
  rw [sp_digit, cIf_y c0, cIf_y c1, cIf_y c2]
  exact ⟨ok, by show (0 : Int) ≤ 0; decide, by show (0 : Int) ≤ 3; decide⟩
theorem sk_bits {s : aS} {i : Int} (ok : aOK s) : aOK (sp_bits s i).2.1 ∧ 0 ≤ (sp_bits s i).1 ∧ (sp_bits s i).1 ≤ 3 := by
  by_cases c0 : okV i
  rotate_left
  · rw [sp_bits, cIf_n c0]; exact ⟨ok, by show (0 : Int) ≤ 1; decide, by show (1 : Int) ≤ 3; decide⟩
  rw [sp_bits, cIf_y c0]
  exact ⟨ok, by show (0 : Int) ≤ 0; decide, by show (0 : Int) ≤ 3; decide⟩
theorem sk_sign {s : aS} {i : Int} (ok : aOK s) : aOK (sp_sign s i).2.1 ∧ 0 ≤ (sp_sign s i).1 ∧ (sp_sign s i).1 ≤ 3 := by
  by_cases c0 : okV i
  rotate_left
  · rw [sp_sign, cIf_n c0]; exact ⟨ok, by show (0 : Int) ≤ 1; decide, by show (1 : Int) ≤ 3; decide⟩
  rw [sp_sign, cIf_y c0]
  exact ⟨ok, by show (0 : Int) ≤ 0; decide, by show (0 : Int) ≤ 3; decide⟩
theorem cv_value {h h1 : am_H} {s : aS} {a b x : Int} (q : (b ≠ 0 ∧ x = (aValue s a b).1 ∧ mOut h h1 0 (aValue s a b).2) ∨ (b = 0 ∧ mOut h h1 1 s)) : mPost h h1 (sp_value s a b) x := by
  rcases q with ⟨c0, e, o⟩ | ⟨c0, o⟩
  · exact mP_y (by rw [sp_value, cIf_y c0]) e o
  · exact mP_n (by rw [sp_value, cIf_n (fun n => n c0)]) (by decide) o
theorem cv_add {h h1 : am_H} {s : aS} {i j x : Int} (q : ((okV i ∧ okV j) ∧ x = (aAdd s i.toNat j.toNat).1 ∧ mOut h h1 0 (aAdd s i.toNat j.toNat).2) ∨ (¬ (okV i ∧ okV j) ∧ mOut h h1 1 s)) : mPost h h1 (sp_add s i j) x := by
  rcases q with ⟨c0, e, o⟩ | ⟨c0, o⟩
  · exact mP_y (by rw [sp_add, cIf_y c0]) e o
  · exact mP_n (by rw [sp_add, cIf_n c0]) (by decide) o
theorem cv_times {h h1 : am_H} {s : aS} {i j x : Int} (q : ((okV i ∧ okV j) ∧ x = (aTimes s i.toNat j.toNat).1 ∧ mOut h h1 0 (aTimes s i.toNat j.toNat).2) ∨ (¬ (okV i ∧ okV j) ∧ mOut h h1 1 s)) : mPost h h1 (sp_times s i j) x := by
  rcases q with ⟨c0, e, o⟩ | ⟨c0, o⟩
  · exact mP_y (by rw [sp_times, cIf_y c0]) e o
  · exact mP_n (by rw [sp_times, cIf_n c0]) (by decide) o
theorem cv_over {h h1 : am_H} {s : aS} {i j x : Int} (q : ((okV i ∧ okV j) ∧ (s.2.1 j.toNat).1 ≠ 0 ∧ x = (aOver s i.toNat j.toNat).1 ∧ mOut h h1 0 (aOver s i.toNat j.toNat).2) ∨ (¬ (okV i ∧ okV j) ∧ mOut h h1 1 s) ∨ ((okV i ∧ okV j) ∧ (s.2.1 j.toNat).1 = 0 ∧ mOut h h1 2 s)) : mPost h h1 (sp_over s i j) x := by
  rcases q with ⟨c0, c1, e, o⟩ | ⟨c0, o⟩ | ⟨c0, c1, o⟩
  · exact mP_y (by rw [sp_over, cIf_y c0, cIf_y c1]) e o
  · exact mP_n (by rw [sp_over, cIf_n c0]) (by decide) o
  · exact mP_n (by rw [sp_over, cIf_y c0, cIf_n (fun n => n c1)]) (by decide) o
theorem cv_order {h h1 : am_H} {s : aS} {i j x : Int} (q : ((okV i ∧ okV j) ∧ x = aOrder s i.toNat j.toNat ∧ mOut h h1 0 s) ∨ (¬ (okV i ∧ okV j) ∧ mOut h h1 1 s)) : mPost h h1 (sp_order s i j) x := by
  rcases q with ⟨c0, e, o⟩ | ⟨c0, o⟩
  · exact mP_y (by rw [sp_order, cIf_y c0]) e o
  · exact mP_n (by rw [sp_order, cIf_n c0]) (by decide) o
theorem cv_root {h h1 : am_H} {s : aS} {i p x : Int} (q : (okV i ∧ okB (s.2.1 i.toNat).1 p ∧ x = (aRoot s i.toNat p.toNat).1 ∧ mOut h h1 0 (aRoot s i.toNat p.toNat).2) ∨ (¬ okV i ∧ mOut h h1 1 s) ∨ (okV i ∧ ¬ okB (s.2.1 i.toNat).1 p ∧ mOut h h1 2 s)) : mPost h h1 (sp_root s i p) x := by
  rcases q with ⟨c0, c1, e, o⟩ | ⟨c0, o⟩ | ⟨c0, c1, o⟩
  · exact mP_y (by rw [sp_root, cIf_y c0, cIf_y c1]) e o
  · exact mP_n (by rw [sp_root, cIf_n c0]) (by decide) o
  · exact mP_n (by rw [sp_root, cIf_y c0, cIf_n c1]) (by decide) o
theorem cv_end {h h1 : am_H} {s : aS} {r v x : Int} (q : (okE r v ∧ x = s.2.2.2.1 (2 * r + v).toNat ∧ mOut h h1 0 s) ∨ (¬ okE r v ∧ mOut h h1 1 s)) : mPost h h1 (sp_end s r v) x := by
  rcases q with ⟨c0, e, o⟩ | ⟨c0, o⟩
  · exact mP_y (by rw [sp_end, cIf_y c0]) e o
  · exact mP_n (by rw [sp_end, cIf_n c0]) (by decide) o
theorem cv_round {h h1 : am_H} {s : aS} {i rule unit x : Int} (q : (okV i ∧ okQ rule unit ∧ x = (aRound s i.toNat rule unit.natAbs).1 ∧ mOut h h1 0 (aRound s i.toNat rule unit.natAbs).2) ∨ (¬ okV i ∧ mOut h h1 1 s) ∨ (okV i ∧ ¬ okQ rule unit ∧ mOut h h1 2 s)) : mPost h h1 (sp_round s i rule unit) x := by
  rcases q with ⟨c0, c1, e, o⟩ | ⟨c0, o⟩ | ⟨c0, c1, o⟩
  · exact mP_y (by rw [sp_round, cIf_y c0, cIf_y c1]) e o
  · exact mP_n (by rw [sp_round, cIf_n c0]) (by decide) o
  · exact mP_n (by rw [sp_round, cIf_y c0, cIf_n c1]) (by decide) o
theorem cv_turn {h h1 : am_H} {s : aS} {i a b x : Int} (q : ((okV i ∧ okU a ∧ okU b) ∧ x = (aTurn s i.toNat a.toNat b.toNat).1 ∧ mOut h h1 0 (aTurn s i.toNat a.toNat b.toNat).2) ∨ (¬ (okV i ∧ okU a ∧ okU b) ∧ mOut h h1 1 s)) : mPost h h1 (sp_turn s i a b) x := by
  rcases q with ⟨c0, e, o⟩ | ⟨c0, o⟩
  · exact mP_y (by rw [sp_turn, cIf_y c0]) e o
  · exact mP_n (by rw [sp_turn, cIf_n c0]) (by decide) o
theorem cv_share {h h1 : am_H} {s : aS} {whole k x : Int} (q : (okW k ∧ okH whole ∧ wS s.2.2.2.2.2 32 ≠ 0 ∧ x = aShare s whole k.toNat ∧ mOut h h1 0 s) ∨ (¬ okW k ∧ mOut h h1 1 s) ∨ (okW k ∧ ¬ okH whole ∧ mOut h h1 2 s) ∨ (okW k ∧ okH whole ∧ wS s.2.2.2.2.2 32 = 0 ∧ mOut h h1 3 s)) : mPost h h1 (sp_share s whole k) x := by
  rcases q with ⟨c0, c1, c2, e, o⟩ | ⟨c0, o⟩ | ⟨c0, c1, o⟩ | ⟨c0, c1, c2, o⟩
  · exact mP_y (by rw [sp_share, cIf_y c0, cIf_y c1, cIf_y c2]) e o
  · exact mP_n (by rw [sp_share, cIf_n c0]) (by decide) o
  · exact mP_n (by rw [sp_share, cIf_y c0, cIf_n c1]) (by decide) o
  · exact mP_n (by rw [sp_share, cIf_y c0, cIf_y c1, cIf_n (fun n => n c2)]) (by decide) o
theorem cv_digit {h h1 : am_H} {s : aS} {i part j x : Int} (q : (okV i ∧ okD part ∧ (0 ≤ j ∧ j < (dlen (aPart s i.toNat part) : Int)) ∧ x = aDigit (aPart s i.toNat part) j.toNat ∧ mOut h h1 0 s) ∨ ((¬ okV i ∨ (okV i ∧ okD part ∧ ¬ (0 ≤ j ∧ j < (dlen (aPart s i.toNat part) : Int)))) ∧ mOut h h1 1 s) ∨ (okV i ∧ ¬ okD part ∧ mOut h h1 2 s)) : mPost h h1 (sp_digit s i part j) x := by
  rcases q with ⟨c0, c1, c2, e, o⟩ | ⟨c0 | ⟨c0, c1, c2⟩, o⟩ | ⟨c0, c1, o⟩
  · exact mP_y (by rw [sp_digit, cIf_y c0, cIf_y c1, cIf_y c2]) e o
  · exact mP_n (by rw [sp_digit, cIf_n c0]) (by decide) o
  · exact mP_n (by rw [sp_digit, cIf_y c0, cIf_y c1, cIf_n c2]) (by decide) o
  · exact mP_n (by rw [sp_digit, cIf_y c0, cIf_n c1]) (by decide) o
theorem cv_bits {h h1 : am_H} {s : aS} {i x : Int} (q : (okV i ∧ x = aBits s i.toNat ∧ mOut h h1 0 s) ∨ (¬ okV i ∧ mOut h h1 1 s)) : mPost h h1 (sp_bits s i) x := by
  rcases q with ⟨c0, e, o⟩ | ⟨c0, o⟩
  · exact mP_y (by rw [sp_bits, cIf_y c0]) e o
  · exact mP_n (by rw [sp_bits, cIf_n c0]) (by decide) o
theorem cv_sign {h h1 : am_H} {s : aS} {i x : Int} (q : (okV i ∧ x = (s.2.1 i.toNat).1 ∧ mOut h h1 0 s) ∨ (¬ okV i ∧ mOut h h1 1 s)) : mPost h h1 (sp_sign s i) x := by
  rcases q with ⟨c0, e, o⟩ | ⟨c0, o⟩
  · exact mP_y (by rw [sp_sign, cIf_y c0]) e o
  · exact mP_n (by rw [sp_sign, cIf_n c0]) (by decide) o
theorem w_value (l : Launch) (g : am_G) {h : am_H} {s : aS} {a b : Int} {f : Nat → Int} (hst : l.stackTraces = false) (w : kS h s) (h47 : 51 ≤ h.1) (ok : aOK s) (ha : -9223372036854775808 ≤ a ∧ a ≤ 9223372036854775807) (hb : -9223372036854775808 ≤ b ∧ b ≤ 9223372036854775807) (ho : h.2 50 = some (eL 1 f)) :
    am_Met l g yL_value (am_WH yL_value cL_value 7 (some .int) [(0, 11, 14, 13)]) 8 5 119 [.ref 0, vL a, vL b, .ref 50] h (qI fun kq h1 => wPost h h1 (sp_value s a b) kq) := by
  refine am_mkH [some (.ref 0), some (vL a), none, some (vL b), none, some (.ref 50), none] 1 rfl rfl (by decide +kernel) (fun x hl hg hnL hC hT hHT => ?_)
  refine am_aload5 hC dL_value_0 ?_
  refine am_iconst hC dL_value_2 ?_
  refine am_aload0 hC dL_value_3 ?_
  refine am_lload1 hC dL_value_4 ?_
  refine am_lload3 hC dL_value_5 ?_
  refine am_tryVI hC hHT 4 hT dL_value_6 kL_7 (m_value _ _ (by rw [hl]; exact hst) w h47 ok ha hb) rfl w.1 rfl rfl (Nat.le_of_ble_eq_true rfl) (by decide) (by omega) (by omega) (fun E h1 x => by obtain ⟨⟨rfl, c0⟩, v1, g1⟩ := x; exact ⟨1, by rw [hnL]; exact ca_value_am_ARE, _, rfl, ⟨wP_n (by rw [sp_value, cIf_n (fun n => n c0)]) (by decide) v1 g1 h47 ho, fun z => absurd z (by rw [sp_value, cIf_n (fun n => n c0)]; show ¬ (1 : Int) = 0; decide)⟩⟩) (fun v h1 q => ?_)
  obtain ⟨c0, rfl, v1, g1⟩ := q
  have k46 : h1.2 50 = _ := (g1.2 50 (by omega) (fun c => by have := K39_lt _ c; omega)).trans ho
  have rv : IR (aValue s a b).1 := rv_value ok
  refine am_i2l hC dL_value_9 (by omega) ?_
  refine am_last hC dL_value_10 k46 (by omega) (by omega) ?_
  refine am_heap (fun h2 e2 => ?_)
  refine am_goto hC 18 dL_value_11 rfl ?_
  refine am_iconst hC dL_value_18 ?_
  exact am_iret hC hT dL_value_19 (by omega) (by omega) ⟨_, rfl, ⟨wP_y (by rw [sp_value, cIf_y c0]) v1 g1 h47 e2, fun _ => by rw [sp_value, cIf_y c0]; exact rv⟩⟩
theorem w_add (l : Launch) (g : am_G) {h : am_H} {s : aS} {i j : Int} {f : Nat → Int} (hst : l.stackTraces = false) (w : kS h s) (h47 : 51 ≤ h.1) (ok : aOK s) (hi : IR i) (hj : IR j) (ho : h.2 50 = some (eL 1 f)) :
    am_Met l g yL_add (am_WH yL_add cL_add 5 (some .int) [(0, 10, 13, 19)]) 9 7 131 [.ref 0, vI i, vI j, .ref 50] h (qI fun kq h1 => wPost h h1 (sp_add s i j) kq) := by
  refine am_mkH [some (.ref 0), some (vI i), some (vI j), some (.ref 50), none] 1 rfl rfl (by decide +kernel) (fun x hl hg hnL hC hT hHT => ?_)
  refine am_aload3 hC dL_add_0 ?_
  refine am_iconst hC dL_add_1 ?_
  refine am_aload0 hC dL_add_2 ?_
  refine am_iload1 hC dL_add_3 ?_
  refine am_iload2 hC dL_add_4 ?_
  refine am_tryVI hC hHT 4 hT dL_add_5 kL_15 (m_add _ _ (by rw [hl]; exact hst) w h47 ok hi hj) rfl w.1 rfl rfl (Nat.le_of_ble_eq_true rfl) (by decide) (by omega) (by omega) (fun E h1 x => by obtain ⟨⟨rfl, c0⟩, v1, g1⟩ := x; exact ⟨1, by rw [hnL]; exact ca_add_am_AIO, _, rfl, ⟨wP_n (by rw [sp_add, cIf_n c0]) (by decide) v1 g1 h47 ho, fun z => absurd z (by rw [sp_add, cIf_n c0]; show ¬ (1 : Int) = 0; decide)⟩⟩) (fun v h1 q => ?_)
  obtain ⟨x0, x1, rfl, v1, g1⟩ := q
  have k46 : h1.2 50 = _ := (g1.2 50 (by omega) (fun c => by have := K39_lt _ c; omega)).trans ho
  have rv : IR (aAdd s i.toNat j.toNat).1 := rv_add ok
  refine am_i2l hC dL_add_8 (by omega) ?_
  refine am_last hC dL_add_9 k46 (by omega) (by omega) ?_
  refine am_heap (fun h2 e2 => ?_)
  refine am_goto hC 17 dL_add_10 rfl ?_
  refine am_iconst hC dL_add_17 ?_
  exact am_iret hC hT dL_add_18 (by omega) (by omega) ⟨_, rfl, ⟨wP_y (by rw [sp_add, cIf_y ⟨x0, x1⟩]) v1 g1 h47 e2, fun _ => by rw [sp_add, cIf_y ⟨x0, x1⟩]; exact rv⟩⟩
theorem w_times (l : Launch) (g : am_G) {h : am_H} {s : aS} {i j : Int} {f : Nat → Int} (hst : l.stackTraces = false) (w : kS h s) (h47 : 51 ≤ h.1) (ok : aOK s) (hi : IR i) (hj : IR j) (ho : h.2 50 = some (eL 1 f)) :
    am_Met l g yL_times (am_WH yL_times cL_times 5 (some .int) [(0, 10, 13, 19)]) 9 7 131 [.ref 0, vI i, vI j, .ref 50] h (qI fun kq h1 => wPost h h1 (sp_times s i j) kq) := by
  refine am_mkH [some (.ref 0), some (vI i), some (vI j), some (.ref 50), none] 1 rfl rfl (by decide +kernel) (fun x hl hg hnL hC hT hHT => ?_)
  refine am_aload3 hC dL_times_0 ?_
  refine am_iconst hC dL_times_1 ?_
  refine am_aload0 hC dL_times_2 ?_
  refine am_iload1 hC dL_times_3 ?_
  refine am_iload2 hC dL_times_4 ?_
  refine am_tryVI hC hHT 4 hT dL_times_5 kL_21 (m_times _ _ (by rw [hl]; exact hst) w h47 ok hi hj) rfl w.1 rfl rfl (Nat.le_of_ble_eq_true rfl) (by decide) (by omega) (by omega) (fun E h1 x => by obtain ⟨⟨rfl, c0⟩, v1, g1⟩ := x; exact ⟨1, by rw [hnL]; exact ca_times_am_AIO, _, rfl, ⟨wP_n (by rw [sp_times, cIf_n c0]) (by decide) v1 g1 h47 ho, fun z => absurd z (by rw [sp_times, cIf_n c0]; show ¬ (1 : Int) = 0; decide)⟩⟩) (fun v h1 q => ?_)
  obtain ⟨x0, x1, rfl, v1, g1⟩ := q
  have k46 : h1.2 50 = _ := (g1.2 50 (by omega) (fun c => by have := K39_lt _ c; omega)).trans ho
  have rv : IR (aTimes s i.toNat j.toNat).1 := rv_times ok
  refine am_i2l hC dL_times_8 (by omega) ?_
  refine am_last hC dL_times_9 k46 (by omega) (by omega) ?_
  refine am_heap (fun h2 e2 => ?_)
  refine am_goto hC 17 dL_times_10 rfl ?_
  refine am_iconst hC dL_times_17 ?_
  exact am_iret hC hT dL_times_18 (by omega) (by omega) ⟨_, rfl, ⟨wP_y (by rw [sp_times, cIf_y ⟨x0, x1⟩]) v1 g1 h47 e2, fun _ => by rw [sp_times, cIf_y ⟨x0, x1⟩]; exact rv⟩⟩
theorem w_over (l : Launch) (g : am_G) {h : am_H} {s : aS} {i j : Int} {f : Nat → Int} (hst : l.stackTraces = false) (w : kS h s) (h47 : 51 ≤ h.1) (ok : aOK s) (hi : IR i) (hj : IR j) (ho : h.2 50 = some (eL 1 f)) :
    am_Met l g yL_over (am_WH yL_over cL_over 5 (some .int) [(0, 10, 13, 19), (0, 10, 17, 13)]) 9 7 131 [.ref 0, vI i, vI j, .ref 50] h (qI fun kq h1 => wPost h h1 (sp_over s i j) kq) := by
  refine am_mkH [some (.ref 0), some (vI i), some (vI j), some (.ref 50), none] 1 rfl rfl (by decide +kernel) (fun x hl hg hnL hC hT hHT => ?_)
  refine am_aload3 hC dL_over_0 ?_
  refine am_iconst hC dL_over_1 ?_
  refine am_aload0 hC dL_over_2 ?_
  refine am_iload1 hC dL_over_3 ?_
  refine am_iload2 hC dL_over_4 ?_
  refine am_tryVI hC hHT 4 hT dL_over_5 kL_24 (m_over _ _ (by rw [hl]; exact hst) w h47 ok hi hj) rfl w.1 rfl rfl (Nat.le_of_ble_eq_true rfl) (by decide) (by omega) (by omega) (fun E h1 x => by obtain ⟨x0, v1, g1⟩ := x; rcases x0 with ⟨rfl, c0⟩ | ⟨rfl, x0, x1, c1⟩; (· exact ⟨1, by rw [hnL]; exact ca_over_am_AIO, _, rfl, ⟨wP_n (by rw [sp_over, cIf_n c0]) (by decide) v1 g1 h47 ho, fun z => absurd z (by rw [sp_over, cIf_n c0]; show ¬ (1 : Int) = 0; decide)⟩⟩); (· exact ⟨2, by rw [hnL]; exact ca_over_am_ARE, _, rfl, ⟨wP_n (by rw [sp_over, cIf_y ⟨x0, x1⟩, cIf_n (fun n => n c1)]) (by decide) v1 g1 h47 ho, fun z => absurd z (by rw [sp_over, cIf_y ⟨x0, x1⟩, cIf_n (fun n => n c1)]; show ¬ (2 : Int) = 0; decide)⟩⟩)) (fun v h1 q => ?_)
  obtain ⟨x0, x1, c1, rfl, v1, g1⟩ := q
  have k46 : h1.2 50 = _ := (g1.2 50 (by omega) (fun c => by have := K39_lt _ c; omega)).trans ho
  have rv : IR (aOver s i.toNat j.toNat).1 := rv_over ok
  refine am_i2l hC dL_over_8 (by omega) ?_
  refine am_last hC dL_over_9 k46 (by omega) (by omega) ?_
  refine am_heap (fun h2 e2 => ?_)
  refine am_goto hC 21 dL_over_10 rfl ?_
  refine am_iconst hC dL_over_21 ?_
  exact am_iret hC hT dL_over_22 (by omega) (by omega) ⟨_, rfl, ⟨wP_y (by rw [sp_over, cIf_y ⟨x0, x1⟩, cIf_y c1]) v1 g1 h47 e2, fun _ => by rw [sp_over, cIf_y ⟨x0, x1⟩, cIf_y c1]; exact rv⟩⟩
theorem w_order (l : Launch) (g : am_G) {h : am_H} {s : aS} {i j : Int} {f : Nat → Int} (hst : l.stackTraces = false) (w : kS h s) (h47 : 51 ≤ h.1) (ok : aOK s) (hi : IR i) (hj : IR j) (ho : h.2 50 = some (eL 1 f)) :
    am_Met l g yL_order (am_WH yL_order cL_order 5 (some .int) [(0, 10, 13, 19)]) 9 7 131 [.ref 0, vI i, vI j, .ref 50] h (qI fun kq h1 => wPost h h1 (sp_order s i j) kq) := by
  refine am_mkH [some (.ref 0), some (vI i), some (vI j), some (.ref 50), none] 1 rfl rfl (by decide +kernel) (fun x hl hg hnL hC hT hHT => ?_)
  refine am_aload3 hC dL_order_0 ?_
  refine am_iconst hC dL_order_1 ?_
  refine am_aload0 hC dL_order_2 ?_
  refine am_iload1 hC dL_order_3 ?_
  refine am_iload2 hC dL_order_4 ?_
  refine am_tryVI hC hHT 4 hT dL_order_5 kL_27 (m_order _ _ (by rw [hl]; exact hst) w h47 ok hi hj) rfl w.1 rfl rfl (Nat.le_of_ble_eq_true rfl) (by decide) (by omega) (by omega) (fun E h1 x => by obtain ⟨⟨rfl, c0⟩, v1, g1⟩ := x; exact ⟨1, by rw [hnL]; exact ca_order_am_AIO, _, rfl, ⟨wP_n (by rw [sp_order, cIf_n c0]) (by decide) v1 g1 h47 ho, fun z => absurd z (by rw [sp_order, cIf_n c0]; show ¬ (1 : Int) = 0; decide)⟩⟩) (fun v h1 q => ?_)
  obtain ⟨x0, x1, rfl, v1, g1⟩ := q
  have k46 : h1.2 50 = _ := (g1.2 50 (by omega) (fun c => by have := K39_lt _ c; omega)).trans ho
  have rv := rv_order (j := j) ok x0
  refine am_i2l hC dL_order_8 (by omega) ?_
  refine am_last hC dL_order_9 k46 (by omega) (by omega) ?_
  refine am_heap (fun h2 e2 => ?_)
  refine am_goto hC 17 dL_order_10 rfl ?_
  refine am_iconst hC dL_order_17 ?_
  exact am_iret hC hT dL_order_18 (by omega) (by omega) ⟨_, rfl, ⟨wP_y (by rw [sp_order, cIf_y ⟨x0, x1⟩]) v1 g1 h47 e2, fun _ => by rw [sp_order, cIf_y ⟨x0, x1⟩]; exact rv⟩⟩
theorem w_root (l : Launch) (g : am_G) {h : am_H} {s : aS} {i p : Int} {f : Nat → Int} (hst : l.stackTraces = false) (w : kS h s) (h47 : 51 ≤ h.1) (ok : aOK s) (hi : IR i) (hp : IR p) (ho : h.2 50 = some (eL 1 f)) :
    am_Met l g yL_root (am_WH yL_root cL_root 5 (some .int) [(0, 10, 13, 19), (0, 10, 17, 33)]) 9 13 260 [.ref 0, vI i, vI p, .ref 50] h (qI fun kq h1 => wPost h h1 (sp_root s i p) kq) := by
  refine am_mkH [some (.ref 0), some (vI i), some (vI p), some (.ref 50), none] 1 rfl rfl (by decide +kernel) (fun x hl hg hnL hC hT hHT => ?_)
  refine am_aload3 hC dL_root_0 ?_
  refine am_iconst hC dL_root_1 ?_
  refine am_aload0 hC dL_root_2 ?_
  refine am_iload1 hC dL_root_3 ?_
  refine am_iload2 hC dL_root_4 ?_
  refine am_tryVI hC hHT 4 hT dL_root_5 kL_30 (m_root _ _ (by rw [hl]; exact hst) w h47 ok hi hp) rfl w.1 rfl rfl (Nat.le_of_ble_eq_true rfl) (by decide) (by omega) (by omega) (fun E h1 x => by obtain ⟨x0, v1, g1⟩ := x; rcases x0 with ⟨rfl, c0⟩ | ⟨rfl, c0, c1⟩; (· exact ⟨1, by rw [hnL]; exact ca_root_am_AIO, _, rfl, ⟨wP_n (by rw [sp_root, cIf_n c0]) (by decide) v1 g1 h47 ho, fun z => absurd z (by rw [sp_root, cIf_n c0]; show ¬ (1 : Int) = 0; decide)⟩⟩); (· exact ⟨2, by rw [hnL]; exact ca_root_am_IAE, _, rfl, ⟨wP_n (by rw [sp_root, cIf_y c0, cIf_n c1]) (by decide) v1 g1 h47 ho, fun z => absurd z (by rw [sp_root, cIf_y c0, cIf_n c1]; show ¬ (2 : Int) = 0; decide)⟩⟩)) (fun v h1 q => ?_)
  obtain ⟨c0, c1, rfl, v1, g1⟩ := q
  have k46 : h1.2 50 = _ := (g1.2 50 (by omega) (fun c => by have := K39_lt _ c; omega)).trans ho
  have rv : IR (aRoot s i.toNat p.toNat).1 := rv_root ok
  refine am_i2l hC dL_root_8 (by omega) ?_
  refine am_last hC dL_root_9 k46 (by omega) (by omega) ?_
  refine am_heap (fun h2 e2 => ?_)
  refine am_goto hC 21 dL_root_10 rfl ?_
  refine am_iconst hC dL_root_21 ?_
  exact am_iret hC hT dL_root_22 (by omega) (by omega) ⟨_, rfl, ⟨wP_y (by rw [sp_root, cIf_y c0, cIf_y c1]) v1 g1 h47 e2, fun _ => by rw [sp_root, cIf_y c0, cIf_y c1]; exact rv⟩⟩
theorem w_end (l : Launch) (g : am_G) {h : am_H} {s : aS} {r v : Int} {f : Nat → Int} (hst : l.stackTraces = false) (w : kS h s) (h47 : 51 ≤ h.1) (ok : aOK s) (hr : IR r) (hv : IR v) (ho : h.2 50 = some (eL 1 f)) :
    am_Met l g yL_end (am_WH yL_end cL_end 5 (some .int) [(0, 10, 13, 19)]) 8 1 6 [.ref 0, vI r, vI v, .ref 50] h (qI fun kq h1 => wPost h h1 (sp_end s r v) kq) := by
  refine am_mkH [some (.ref 0), some (vI r), some (vI v), some (.ref 50), none] 1 rfl rfl (by decide +kernel) (fun x hl hg hnL hC hT hHT => ?_)
  refine am_aload3 hC dL_end_0 ?_
  refine am_iconst hC dL_end_1 ?_
  refine am_aload0 hC dL_end_2 ?_
  refine am_iload1 hC dL_end_3 ?_
  refine am_iload2 hC dL_end_4 ?_
  refine am_tryVI hC hHT 4 hT dL_end_5 kL_35 (m_end _ _ (by rw [hl]; exact hst) w hr hv) rfl w.1 rfl rfl (Nat.le_of_ble_eq_true rfl) (by decide) (by omega) (by omega) (fun E h1 x => by obtain ⟨⟨rfl, c0⟩, v1, g1⟩ := x; exact ⟨1, by rw [hnL]; exact ca_end_am_AIO, _, rfl, ⟨wP_n (by rw [sp_end, cIf_n c0]) (by decide) v1 g1 h47 ho, fun z => absurd z (by rw [sp_end, cIf_n c0]; show ¬ (1 : Int) = 0; decide)⟩⟩) (fun v h1 q => ?_)
  obtain ⟨c0, rfl, e⟩ := q
  rw [e]
  clear e
  have v1 := w
  have g1 := gx.rf h K39
  have k46 := ho
  have rv := rv_end ok c0
  refine am_i2l hC dL_end_8 (by omega) ?_
  refine am_last hC dL_end_9 k46 (by omega) (by omega) ?_
  refine am_heap (fun h2 e2 => ?_)
  refine am_goto hC 17 dL_end_10 rfl ?_
  refine am_iconst hC dL_end_17 ?_
  exact am_iret hC hT dL_end_18 (by omega) (by omega) ⟨_, rfl, ⟨wP_y (by rw [sp_end, cIf_y c0]) v1 g1 h47 e2, fun _ => by rw [sp_end, cIf_y c0]; exact rv⟩⟩
theorem w_round (l : Launch) (g : am_G) {h : am_H} {s : aS} {i rule unit : Int} {f : Nat → Int} (hst : l.stackTraces = false) (w : kS h s) (h47 : 51 ≤ h.1) (ok : aOK s) (hi : IR i) (hrule : IR rule) (hunit : -9223372036854775808 ≤ unit ∧ unit ≤ 9223372036854775807) (ho : h.2 50 = some (eL 1 f)) :
    am_Met l g yL_round (am_WH yL_round cL_round 7 (some .int) [(0, 12, 15, 19), (0, 12, 19, 33)]) 9 7 131 [.ref 0, vI i, vI rule, vL unit, .ref 50] h (qI fun kq h1 => wPost h h1 (sp_round s i rule unit) kq) := by
  refine am_mkH [some (.ref 0), some (vI i), some (vI rule), some (vL unit), none, some (.ref 50), none] 1 rfl rfl (by decide +kernel) (fun x hl hg hnL hC hT hHT => ?_)
  refine am_aload5 hC dL_round_0 ?_
  refine am_iconst hC dL_round_2 ?_
  refine am_aload0 hC dL_round_3 ?_
  refine am_iload1 hC dL_round_4 ?_
  refine am_iload2 hC dL_round_5 ?_
  refine am_lload3 hC dL_round_6 ?_
  refine am_tryVI hC hHT 4 hT dL_round_7 kL_38 (m_round _ _ (by rw [hl]; exact hst) w h47 ok hi hrule hunit) rfl w.1 rfl rfl (Nat.le_of_ble_eq_true rfl) (by decide) (by omega) (by omega) (fun E h1 x => by obtain ⟨x0, v1, g1⟩ := x; rcases x0 with ⟨rfl, c0⟩ | ⟨rfl, c0, c1⟩; (· exact ⟨1, by rw [hnL]; exact ca_round_am_AIO, _, rfl, ⟨wP_n (by rw [sp_round, cIf_n c0]) (by decide) v1 g1 h47 ho, fun z => absurd z (by rw [sp_round, cIf_n c0]; show ¬ (1 : Int) = 0; decide)⟩⟩); (· exact ⟨2, by rw [hnL]; exact ca_round_am_IAE, _, rfl, ⟨wP_n (by rw [sp_round, cIf_y c0, cIf_n c1]) (by decide) v1 g1 h47 ho, fun z => absurd z (by rw [sp_round, cIf_y c0, cIf_n c1]; show ¬ (2 : Int) = 0; decide)⟩⟩)) (fun v h1 q => ?_)
  obtain ⟨c0, c1, rfl, v1, g1⟩ := q
  have k46 : h1.2 50 = _ := (g1.2 50 (by omega) (fun c => by have := K39_lt _ c; omega)).trans ho
  have rv : IR (aRound s i.toNat rule unit.natAbs).1 := rv_round ok
  refine am_i2l hC dL_round_10 (by omega) ?_
  refine am_last hC dL_round_11 k46 (by omega) (by omega) ?_
  refine am_heap (fun h2 e2 => ?_)
  refine am_goto hC 23 dL_round_12 rfl ?_
  refine am_iconst hC dL_round_23 ?_
  exact am_iret hC hT dL_round_24 (by omega) (by omega) ⟨_, rfl, ⟨wP_y (by rw [sp_round, cIf_y c0, cIf_y c1]) v1 g1 h47 e2, fun _ => by rw [sp_round, cIf_y c0, cIf_y c1]; exact rv⟩⟩
theorem w_turn (l : Launch) (g : am_G) {h : am_H} {s : aS} {i a b : Int} {f : Nat → Int} (hst : l.stackTraces = false) (w : kS h s) (h47 : 51 ≤ h.1) (ok : aOK s) (hi : IR i) (ha : IR a) (hb : IR b) (ho : h.2 50 = some (eL 1 f)) :
    am_Met l g yL_turn (am_WH yL_turn cL_turn 6 (some .int) [(0, 12, 15, 19)]) 9 8 137 [.ref 0, vI i, vI a, vI b, .ref 50] h (qI fun kq h1 => wPost h h1 (sp_turn s i a b) kq) := by
  refine am_mkH [some (.ref 0), some (vI i), some (vI a), some (vI b), some (.ref 50), none] 1 rfl rfl (by decide +kernel) (fun x hl hg hnL hC hT hHT => ?_)
  refine am_aload4 hC dL_turn_0 ?_
  refine am_iconst hC dL_turn_2 ?_
  refine am_aload0 hC dL_turn_3 ?_
  refine am_iload1 hC dL_turn_4 ?_
  refine am_iload2 hC dL_turn_5 ?_
  refine am_iload3 hC dL_turn_6 ?_
  refine am_tryVI hC hHT 4 hT dL_turn_7 kL_42 (m_turn _ _ (by rw [hl]; exact hst) w h47 ok hi ha hb) rfl w.1 rfl rfl (Nat.le_of_ble_eq_true rfl) (by decide) (by omega) (by omega) (fun E h1 x => by obtain ⟨⟨rfl, c0⟩, v1, g1⟩ := x; exact ⟨1, by rw [hnL]; exact ca_turn_am_AIO, _, rfl, ⟨wP_n (by rw [sp_turn, cIf_n c0]) (by decide) v1 g1 h47 ho, fun z => absurd z (by rw [sp_turn, cIf_n c0]; show ¬ (1 : Int) = 0; decide)⟩⟩) (fun v h1 q => ?_)
  obtain ⟨x0, x1, x2, rfl, v1, g1⟩ := q
  have k46 : h1.2 50 = _ := (g1.2 50 (by omega) (fun c => by have := K39_lt _ c; omega)).trans ho
  have rv : IR (aTurn s i.toNat a.toNat b.toNat).1 := rv_turn ok
  refine am_i2l hC dL_turn_10 (by omega) ?_
  refine am_last hC dL_turn_11 k46 (by omega) (by omega) ?_
  refine am_heap (fun h2 e2 => ?_)
  refine am_goto hC 19 dL_turn_12 rfl ?_
  refine am_iconst hC dL_turn_19 ?_
  exact am_iret hC hT dL_turn_20 (by omega) (by omega) ⟨_, rfl, ⟨wP_y (by rw [sp_turn, cIf_y ⟨x0, x1, x2⟩]) v1 g1 h47 e2, fun _ => by rw [sp_turn, cIf_y ⟨x0, x1, x2⟩]; exact rv⟩⟩
theorem w_share (l : Launch) (g : am_G) {h : am_H} {s : aS} {whole k : Int} {f : Nat → Int} (hst : l.stackTraces = false) (w : kS h s) (h47 : 51 ≤ h.1) (ok : aOK s) (hwhole : -9223372036854775808 ≤ whole ∧ whole ≤ 9223372036854775807) (hk : IR k) (ho : h.2 50 = some (eL 1 f)) :
    am_Met l g yL_share (am_WH yL_share cL_share 6 (some .int) [(0, 10, 13, 19), (0, 10, 17, 33), (0, 10, 21, 13)]) 8 1 6 [.ref 0, vL whole, vI k, .ref 50] h (qI fun kq h1 => wPL h h1 (sp_share s whole k) kq) := by
  refine am_mkH [some (.ref 0), some (vL whole), none, some (vI k), some (.ref 50), none] 1 rfl rfl (by decide +kernel) (fun x hl hg hnL hC hT hHT => ?_)
  refine am_aload4 hC dL_share_0 ?_
  refine am_iconst hC dL_share_2 ?_
  refine am_aload0 hC dL_share_3 ?_
  refine am_lload1 hC dL_share_4 ?_
  refine am_iload3 hC dL_share_5 ?_
  refine am_tryVL hC hHT 4 hT dL_share_6 kL_46 (m_share _ _ (by rw [hl]; exact hst) w ok.2.2.2.2.2 hwhole hk) rfl w.1 rfl rfl (Nat.le_of_ble_eq_true rfl) (by decide) (by omega) (by omega) (fun E h1 x => by obtain ⟨x0, v1, g1⟩ := x; rcases x0 with ⟨rfl, c0⟩ | ⟨rfl, c0, c1⟩ | ⟨rfl, c0, c1, c2⟩; (· exact ⟨1, by rw [hnL]; exact ca_share_am_AIO, _, rfl, wP_n (by rw [sp_share, cIf_n c0]) (by decide) v1 g1 h47 ho⟩); (· exact ⟨2, by rw [hnL]; exact ca_share_am_IAE, _, rfl, wP_n (by rw [sp_share, cIf_y c0, cIf_n c1]) (by decide) v1 g1 h47 ho⟩); (· exact ⟨3, by rw [hnL]; exact ca_share_am_ARE, _, rfl, wP_n (by rw [sp_share, cIf_y c0, cIf_y c1, cIf_n (fun n => n c2)]) (by decide) v1 g1 h47 ho⟩)) (fun v h1 q => ?_)
  obtain ⟨c0, c1, c2, rfl, e⟩ := q
  rw [e]
  clear e
  have v1 := w
  have g1 := gx.rf h K39
  have k46 := ho
  refine am_last hC dL_share_9 k46 (by omega) (by omega) ?_
  refine am_heap (fun h2 e2 => ?_)
  refine am_goto hC 25 dL_share_10 rfl ?_
  refine am_iconst hC dL_share_25 ?_
  exact am_iret hC hT dL_share_26 (by omega) (by omega) ⟨_, rfl, wP_y (by rw [sp_share, cIf_y c0, cIf_y c1, cIf_y c2]) v1 g1 h47 e2⟩
theorem w_digit (l : Launch) (g : am_G) {h : am_H} {s : aS} {i part j : Int} {f : Nat → Int} (hst : l.stackTraces = false) (w : kS h s) (h47 : 51 ≤ h.1) (ok : aOK s) (hi : IR i) (hpart : IR part) (hj : IR j) (ho : h.2 50 = some (eL 1 f)) :
    am_Met l g yL_digit (am_WH yL_digit cL_digit 6 (some .int) [(0, 12, 15, 19), (0, 12, 19, 33)]) 9 2 12 [.ref 0, vI i, vI part, vI j, .ref 50] h (qI fun kq h1 => wPost h h1 (sp_digit s i part j) kq) := by
  refine am_mkH [some (.ref 0), some (vI i), some (vI part), some (vI j), some (.ref 50), none] 1 rfl rfl (by decide +kernel) (fun x hl hg hnL hC hT hHT => ?_)
  refine am_aload4 hC dL_digit_0 ?_
  refine am_iconst hC dL_digit_2 ?_
  refine am_aload0 hC dL_digit_3 ?_
  refine am_iload1 hC dL_digit_4 ?_
  refine am_iload2 hC dL_digit_5 ?_
  refine am_iload3 hC dL_digit_6 ?_
  refine am_tryVI hC hHT 4 hT dL_digit_7 kL_50 (m_digit _ _ (by rw [hl]; exact hst) w h47 ok hi hpart hj) rfl w.1 rfl rfl (Nat.le_of_ble_eq_true rfl) (by decide) (by omega) (by omega) (fun E h1 x => by obtain ⟨x0, v1, g1⟩ := x; rcases x0 with ⟨rfl, c0⟩ | ⟨rfl, c0, c1⟩ | ⟨rfl, c0, c1, c2⟩; (· exact ⟨1, by rw [hnL]; exact ca_digit_am_AIO, _, rfl, ⟨wP_n (by rw [sp_digit, cIf_n c0]) (by decide) v1 g1 h47 ho, fun z => absurd z (by rw [sp_digit, cIf_n c0]; show ¬ (1 : Int) = 0; decide)⟩⟩); (· exact ⟨2, by rw [hnL]; exact ca_digit_am_IAE, _, rfl, ⟨wP_n (by rw [sp_digit, cIf_y c0, cIf_n c1]) (by decide) v1 g1 h47 ho, fun z => absurd z (by rw [sp_digit, cIf_y c0, cIf_n c1]; show ¬ (2 : Int) = 0; decide)⟩⟩); (· exact ⟨1, by rw [hnL]; exact ca_digit_am_AIO, _, rfl, ⟨wP_n (by rw [sp_digit, cIf_y c0, cIf_y c1, cIf_n c2]) (by decide) v1 g1 h47 ho, fun z => absurd z (by rw [sp_digit, cIf_y c0, cIf_y c1, cIf_n c2]; show ¬ (1 : Int) = 0; decide)⟩⟩)) (fun v h1 q => ?_)
  obtain ⟨c0, c1, c2, rfl, v1, g1⟩ := q
  have k46 : h1.2 50 = _ := (g1.2 50 (by omega) (fun c => by have := K39_lt _ c; omega)).trans ho
  have rv := rv_digit (a := aPart s i.toNat part) (j := j.toNat)
  refine am_i2l hC dL_digit_10 (by omega) ?_
  refine am_last hC dL_digit_11 k46 (by omega) (by omega) ?_
  refine am_heap (fun h2 e2 => ?_)
  refine am_goto hC 23 dL_digit_12 rfl ?_
  refine am_iconst hC dL_digit_23 ?_
  exact am_iret hC hT dL_digit_24 (by omega) (by omega) ⟨_, rfl, ⟨wP_y (by rw [sp_digit, cIf_y c0, cIf_y c1, cIf_y c2]) v1 g1 h47 e2, fun _ => by rw [sp_digit, cIf_y c0, cIf_y c1, cIf_y c2]; exact rv⟩⟩
theorem w_bits (l : Launch) (g : am_G) {h : am_H} {s : aS} {i : Int} {f : Nat → Int} (hst : l.stackTraces = false) (w : kS h s) (h47 : 51 ≤ h.1) (ok : aOK s) (hi : IR i) (ho : h.2 50 = some (eL 1 f)) :
    am_Met l g yL_bits (am_WH yL_bits cL_bits 4 (some .int) [(0, 9, 12, 19)]) 9 1 6 [.ref 0, vI i, .ref 50] h (qI fun kq h1 => wPost h h1 (sp_bits s i) kq) := by
  refine am_mkH [some (.ref 0), some (vI i), some (.ref 50), none] 1 rfl rfl (by decide +kernel) (fun x hl hg hnL hC hT hHT => ?_)
  refine am_aload2 hC dL_bits_0 ?_
  refine am_iconst hC dL_bits_1 ?_
  refine am_aload0 hC dL_bits_2 ?_
  refine am_iload1 hC dL_bits_3 ?_
  refine am_tryVI hC hHT 4 hT dL_bits_4 kL_53 (m_bits _ _ (by rw [hl]; exact hst) w ok hi) rfl w.1 rfl rfl (Nat.le_of_ble_eq_true rfl) (by decide) (by omega) (by omega) (fun E h1 x => by obtain ⟨⟨rfl, c0⟩, v1, g1⟩ := x; exact ⟨1, by rw [hnL]; exact ca_bits_am_AIO, _, rfl, ⟨wP_n (by rw [sp_bits, cIf_n c0]) (by decide) v1 g1 h47 ho, fun z => absurd z (by rw [sp_bits, cIf_n c0]; show ¬ (1 : Int) = 0; decide)⟩⟩) (fun v h1 q => ?_)
  obtain ⟨c0, rfl, e⟩ := q
  rw [e]
  clear e
  have v1 := w
  have g1 := gx.rf h K39
  have k46 := ho
  have rv := rv_bits ok c0
  refine am_i2l hC dL_bits_7 (by omega) ?_
  refine am_last hC dL_bits_8 k46 (by omega) (by omega) ?_
  refine am_heap (fun h2 e2 => ?_)
  refine am_goto hC 15 dL_bits_9 rfl ?_
  refine am_iconst hC dL_bits_15 ?_
  exact am_iret hC hT dL_bits_16 (by omega) (by omega) ⟨_, rfl, ⟨wP_y (by rw [sp_bits, cIf_y c0]) v1 g1 h47 e2, fun _ => by rw [sp_bits, cIf_y c0]; exact rv⟩⟩
theorem w_sign (l : Launch) (g : am_G) {h : am_H} {s : aS} {i : Int} {f : Nat → Int} (hst : l.stackTraces = false) (w : kS h s) (h47 : 51 ≤ h.1) (ok : aOK s) (hi : IR i) (ho : h.2 50 = some (eL 1 f)) :
    am_Met l g yL_sign (am_WH yL_sign cL_sign 4 (some .int) [(0, 9, 12, 19)]) 9 1 6 [.ref 0, vI i, .ref 50] h (qI fun kq h1 => wPost h h1 (sp_sign s i) kq) := by
  refine am_mkH [some (.ref 0), some (vI i), some (.ref 50), none] 1 rfl rfl (by decide +kernel) (fun x hl hg hnL hC hT hHT => ?_)
  refine am_aload2 hC dL_sign_0 ?_
  refine am_iconst hC dL_sign_1 ?_
  refine am_aload0 hC dL_sign_2 ?_
  refine am_iload1 hC dL_sign_3 ?_
  refine am_tryVI hC hHT 4 hT dL_sign_4 kL_57 (m_sign _ _ (by rw [hl]; exact hst) w hi) rfl w.1 rfl rfl (Nat.le_of_ble_eq_true rfl) (by decide) (by omega) (by omega) (fun E h1 x => by obtain ⟨⟨rfl, c0⟩, v1, g1⟩ := x; exact ⟨1, by rw [hnL]; exact ca_sign_am_AIO, _, rfl, ⟨wP_n (by rw [sp_sign, cIf_n c0]) (by decide) v1 g1 h47 ho, fun z => absurd z (by rw [sp_sign, cIf_n c0]; show ¬ (1 : Int) = 0; decide)⟩⟩) (fun v h1 q => ?_)
  obtain ⟨c0, rfl, e⟩ := q
  rw [e]
  clear e
  have v1 := w
  have g1 := gx.rf h K39
  have k46 := ho
  have rv := rv_sign ok c0
  refine am_i2l hC dL_sign_7 (by omega) ?_
  refine am_last hC dL_sign_8 k46 (by omega) (by omega) ?_
  refine am_heap (fun h2 e2 => ?_)
  refine am_goto hC 15 dL_sign_9 rfl ?_
  refine am_iconst hC dL_sign_15 ?_
  exact am_iret hC hT dL_sign_16 (by omega) (by omega) ⟨_, rfl, ⟨wP_y (by rw [sp_sign, cIf_y c0]) v1 g1 h47 e2, fun _ => by rw [sp_sign, cIf_y c0]; exact rv⟩⟩

/-! the Model's constructor -/
theorem pg_1 (k : Nat) : pg 1 k = if k = 0 then 1 else 0 := by
  by_cases c : k = 0
  · rw [if_pos c, c]; unfold pg; rw [hp_0]
  · rw [if_neg c]; exact pg_out (n := 1) (by decide) (by omega)
theorem Minit_loop {z : am_X} {h : am_H} (hC : am_C z cX5_init yX5_init.cls 2 6 18382) (hT : am_T z none (qN fun h1 => h1.1 = 50 ∧ eS h1 s0 0 160 (fun _ => 0) ∧ gx h h1 [43]) 6 18382) : ∀ (m i : Nat) (H : am_H) (f : Nat → Int), i + m = 150 → H.1 = 50 → gx h H [43] → H.2 43 = some (rO 0 160 0 0 0) → H.2 44 = some (eI 1920 (fun _ => 0)) → H.2 45 = some (eI 150 (fun _ => 0)) → H.2 46 = some (eI 8100 (fun _ => 0)) → H.2 47 = some (eI 8100 f) → H.2 48 = some (eI 80 (fun _ => 0)) → H.2 49 = some (eL 32 (fun _ => 0)) → h.1 = 44 → (∀ j, f j = if j % 54 = 0 ∧ j / 54 < i then 1 else 0) → am_W z 65 6 18382 H [some (.ref 43), some (vI (i : Int))] [] := by
  intro m
  induction m with
  | zero =>
    intro i H f hi h46 G e0 e1 e2 e3 e4 e5 e6 h40 hf
    refine am_iload1 hC dX5_init_65 ?_
    refine am_sipush hC dX5_init_66 rfl ?_
    refine am_icmp_ge hC 88 dX5_init_69 rfl (by omega) (by omega) (fun c69 => ?_) (fun c69 => ?_)
    · refine am_vret hC hT dX5_init_88 (by omega) (by omega) ⟨rfl, h46, ⟨e0, e1, ⟨by decide, by decide⟩, ⟨⟨_, e2, fun i _ => rfl⟩, ⟨_, e3, fun i _ k _ => ?_⟩, ⟨_, e4, fun i' h1 k h2 => ?_⟩⟩, e5, e6⟩, G⟩
      · show (0 : Int) = ((pg 0 k : Nat) : Int); rw [pg_0]; rfl
      · show f (54 * i' + k) = ((pg 1 k : Nat) : Int)
        rw [hf, pg_1]
        by_cases c : k = 0
        · rw [if_pos c, if_pos (by omega)]; rfl
        · rw [if_neg c, if_neg (by omega)]; rfl
    · exact absurd c69 (by omega)
  | succ m ih =>
    intro i H f hi h46 G e0 e1 e2 e3 e4 e5 e6 h40 hf
    refine am_iload1 hC dX5_init_65 ?_
    refine am_sipush hC dX5_init_66 rfl ?_
    refine am_icmp_ge hC 88 dX5_init_69 rfl (by omega) (by omega) (fun c69 => ?_) (fun c69 => ?_)
    · exact absurd c69 (by omega)
    · refine am_aload0 hC dX5_init_72 ?_
      refine am_getf hC dX5_init_73 fX5_23 e0 rfl ?_
      refine am_bipush hC dX5_init_76 rfl ?_
      refine am_iload1 hC dX5_init_78 ?_
      refine am_imul hC dX5_init_79 ?_
      refine am_iconst hC dX5_init_80 ?_
      rw [show (54 * (i : Int)) = ((54 * i : Nat) : Int) by omega]
      refine am_iast hC dX5_init_81 e4 (by omega) (by omega) ?_
      rw [Int.toNat_natCast]
      refine am_heap (fun H2 q => ?_)
      have oo : only H H2 [47] := by rw [q]; exact only_up (by simp)
      have N4 : H2.2 47 = _ := (congrArg (fun H => H.2 47) q).trans (am_up_at _ _ _)
      clear q
      refine am_iinc1 hC dX5_init_82 rfl ?_
      refine am_goto hC 65 dX5_init_85 rfl ?_
      rw [show (i : Int) + 1 = ((i + 1 : Nat) : Int) by omega]
      have oz := oo.1
      refine ih (i + 1) H2 _ (by omega) (by omega) (G.cut oo.gx (fun q hq c => by simp at hq; omega)) ((oo.2 43 (by simp)).trans e0) ((oo.2 44 (by simp)).trans e1) ((oo.2 45 (by simp)).trans e2) ((oo.2 46 (by simp)).trans e3) N4 ((oo.2 48 (by simp)).trans e5) ((oo.2 49 (by simp)).trans e6) h40 (fun j => ?_)
      by_cases c : j = 54 * i
      · rw [c, am_fu_at, if_pos (by omega)]
      · rw [am_fu_lt c, hf]
        by_cases d : j % 54 = 0 ∧ j / 54 < i
        · rw [if_pos d, if_pos (by omega)]
        · rw [if_neg d, if_neg (by omega)]
theorem m_Minit_M (l : Launch) (g : am_G) {h : am_H} (h0 : h.2 43 = some (eO 5 [vI 0, vI 0, .null, vI 0, .null, .null, .null, vI 0, .null, vI 0, .null])) (hd : h.1 = 44) :
    am_Met l g yX5_init (am_W1 yX5_init cX5_init 2 none) 2 6 18382 [.ref 43] h (qN fun h1 => h1.1 = 50 ∧ eS h1 s0 0 160 (fun _ => 0) ∧ gx h h1 [43]) := by
  refine am_mk [some (.ref 43), none] 1 rfl rfl (by decide +kernel) (fun z hl hg hC hT hin => ?_)
  refine am_aload0 hC dX5_init_0 ?_
  refine am_objInit hC dX5_init_1 oX5_1 (by decide) (by decide) ?_
  refine am_aload0 hC dX5_init_4 ?_
  refine am_sipush hC dX5_init_5 rfl ?_
  refine am_putf hC dX5_init_8 pX5_9 (fun q => by cases q) h0 (am_fitI _) (Nat.le_of_ble_eq_true rfl) ?_
  refine am_heap (fun h1 e => ?_)
  have g1 : gx h h1 [43] := by rw [e]; exact gx_up _ _ _
  have s1 : h1.1 = 44 := by rw [e]; exact hd
  have F1 : h1.2 43 = _ := (congrArg (fun H => H.2 43) e).trans (am_up_at _ _ _)
  clear e
  refine am_aload0 hC dX5_init_11 ?_
  refine am_sipush hC dX5_init_12 rfl ?_
  refine am_newI hC 1920 dX5_init_15 rfl (by decide) (by omega) (by omega) ?_
  have k17 : (am_push h1 (eI 1920 (fun _ => 0))).2 43 = some (eO 5 ([vI 0, vI 0, .null, vI 0, .null, .null, .null, vI 0, .null, vI 0, .null].set 1 (vI 160))) := by rw [am_push_ne _ _ (by omega)]; exact F1
  rw [s1]
  refine am_putf hC dX5_init_17 pX5_13 (fun _ => hin rfl) k17 (am_fitA _ _) (Nat.le_of_ble_eq_true rfl) ?_
  refine am_heap (fun h2 e => ?_)
  have n2 := newQp (by omega) e
  clear e
  rw [s1] at n2
  have s2 : h2.1 = 45 := n2.1
  have F2 := n2.2.1
  have a2 := n2.2.2.1
  have g2 := n2.2.2.2
  refine am_aload0 hC dX5_init_20 ?_
  refine am_sipush hC dX5_init_21 rfl ?_
  refine am_newI hC 150 dX5_init_24 rfl (by decide) (by omega) (by omega) ?_
  have k26 : (am_push h2 (eI 150 (fun _ => 0))).2 43 = some (eO 5 (([vI 0, vI 0, .null, vI 0, .null, .null, .null, vI 0, .null, vI 0, .null].set 1 (vI 160)).set 2 (.ref 44))) := by rw [am_push_ne _ _ (by omega)]; exact F2
  rw [s2]
  refine am_putf hC dX5_init_26 pX5_17 (fun _ => hin rfl) k26 (am_fitA _ _) (Nat.le_of_ble_eq_true rfl) ?_
  refine am_heap (fun h3 e => ?_)
  have n3 := newQp (by omega) e
  clear e
  rw [s2] at n3
  have s3 : h3.1 = 46 := n3.1
  have F3 := n3.2.1
  have a3 := n3.2.2.1
  have g3 := n3.2.2.2
  refine am_aload0 hC dX5_init_29 ?_
  refine am_sipush hC dX5_init_30 rfl ?_
  refine am_newI hC 8100 dX5_init_33 rfl (by decide) (by omega) (by omega) ?_
  have k35 : (am_push h3 (eI 8100 (fun _ => 0))).2 43 = some (eO 5 ((([vI 0, vI 0, .null, vI 0, .null, .null, .null, vI 0, .null, vI 0, .null].set 1 (vI 160)).set 2 (.ref 44)).set 4 (.ref 45))) := by rw [am_push_ne _ _ (by omega)]; exact F3
  rw [s3]
  refine am_putf hC dX5_init_35 pX5_20 (fun _ => hin rfl) k35 (am_fitA _ _) (Nat.le_of_ble_eq_true rfl) ?_
  refine am_heap (fun h4 e => ?_)
  have n4 := newQp (by omega) e
  clear e
  rw [s3] at n4
  have s4 : h4.1 = 47 := n4.1
  have F4 := n4.2.1
  have a4 := n4.2.2.1
  have g4 := n4.2.2.2
  refine am_aload0 hC dX5_init_38 ?_
  refine am_sipush hC dX5_init_39 rfl ?_
  refine am_newI hC 8100 dX5_init_42 rfl (by decide) (by omega) (by omega) ?_
  have k44 : (am_push h4 (eI 8100 (fun _ => 0))).2 43 = some (eO 5 (((([vI 0, vI 0, .null, vI 0, .null, .null, .null, vI 0, .null, vI 0, .null].set 1 (vI 160)).set 2 (.ref 44)).set 4 (.ref 45)).set 5 (.ref 46))) := by rw [am_push_ne _ _ (by omega)]; exact F4
  rw [s4]
  refine am_putf hC dX5_init_44 pX5_23 (fun _ => hin rfl) k44 (am_fitA _ _) (Nat.le_of_ble_eq_true rfl) ?_
  refine am_heap (fun h5 e => ?_)
  have n5 := newQp (by omega) e
  clear e
  rw [s4] at n5
  have s5 : h5.1 = 48 := n5.1
  have F5 := n5.2.1
  have a5 := n5.2.2.1
  have g5 := n5.2.2.2
  refine am_aload0 hC dX5_init_47 ?_
  refine am_bipush hC dX5_init_48 rfl ?_
  refine am_newI hC 80 dX5_init_50 rfl (by decide) (by omega) (by omega) ?_
  have k52 : (am_push h5 (eI 80 (fun _ => 0))).2 43 = some (eO 5 ((((([vI 0, vI 0, .null, vI 0, .null, .null, .null, vI 0, .null, vI 0, .null].set 1 (vI 160)).set 2 (.ref 44)).set 4 (.ref 45)).set 5 (.ref 46)).set 6 (.ref 47))) := by rw [am_push_ne _ _ (by omega)]; exact F5
  rw [s5]
  refine am_putf hC dX5_init_52 pX5_26 (fun _ => hin rfl) k52 (am_fitA _ _) (Nat.le_of_ble_eq_true rfl) ?_
  refine am_heap (fun h6 e => ?_)
  have n6 := newQp (by omega) e
  clear e
  rw [s5] at n6
  have s6 : h6.1 = 49 := n6.1
  have F6 := n6.2.1
  have a6 := n6.2.2.1
  have g6 := n6.2.2.2
  refine am_aload0 hC dX5_init_55 ?_
  refine am_bipush hC dX5_init_56 rfl ?_
  refine am_newL hC 32 dX5_init_58 rfl (by decide) (by omega) (by omega) ?_
  have k60 : (am_push h6 (eL 32 (fun _ => 0))).2 43 = some (eO 5 (((((([vI 0, vI 0, .null, vI 0, .null, .null, .null, vI 0, .null, vI 0, .null].set 1 (vI 160)).set 2 (.ref 44)).set 4 (.ref 45)).set 5 (.ref 46)).set 6 (.ref 47)).set 8 (.ref 48))) := by rw [am_push_ne _ _ (by omega)]; exact F6
  rw [s6]
  refine am_putf hC dX5_init_60 pX5_29 (fun _ => hin rfl) k60 (am_fitA _ _) (Nat.le_of_ble_eq_true rfl) ?_
  refine am_heap (fun h7 e => ?_)
  have n7 := newQp (by omega) e
  clear e
  rw [s6] at n7
  have s7 : h7.1 = 50 := n7.1
  have F7 := n7.2.1
  have a7 := n7.2.2.1
  have g7 := n7.2.2.2
  refine am_iconst hC dX5_init_63 ?_
  refine am_istore1 hC dX5_init_64 rfl ?_
  exact Minit_loop hC hT 150 0 h7 _ rfl s7 ((((((g1.tr g2).tr g3).tr g4).tr g5).tr g6).tr g7) F7 ((g7.2 44 (by omega) (by simp)).trans ((g6.2 44 (by omega) (by simp)).trans ((g5.2 44 (by omega) (by simp)).trans ((g4.2 44 (by omega) (by simp)).trans ((g3.2 44 (by omega) (by simp)).trans a2))))) ((g7.2 45 (by omega) (by simp)).trans ((g6.2 45 (by omega) (by simp)).trans ((g5.2 45 (by omega) (by simp)).trans ((g4.2 45 (by omega) (by simp)).trans a3)))) ((g7.2 46 (by omega) (by simp)).trans ((g6.2 46 (by omega) (by simp)).trans ((g5.2 46 (by omega) (by simp)).trans a4))) ((g7.2 47 (by omega) (by simp)).trans ((g6.2 47 (by omega) (by simp)).trans a5)) ((g7.2 48 (by omega) (by simp)).trans a6) a7 hd (fun j => by rw [if_neg (by omega)])

/-! make -/
abbrev K45 : List Nat := [43, 44, 45, 46, 47, 48, 49]
theorem only_up {h : am_H} {i : Nat} {e : am_E} {S : List Nat} (q : i ∈ S) : only h (am_up h i e) S := ⟨rfl, fun r hr => am_up_ne _ _ (fun c => hr (c ▸ q))⟩
theorem make_fin {z : am_X} {h : am_H} {s : aS} {th sd sv : Int} {wd A B x y : Nat} {R : Nat → Int} {P : Int → am_H → Prop} (hC : am_C z cX5_make yX5_make.cls 3 0 0) (hT : am_T z (some .int) (qI P) 0 0) (w : eS h s th wd R) (n150 : s.1 < 150) (r8 : rg R 8 A) (r7 : rg R 7 B)
    (fin : ∀ h1, eS h1 (s.1 + 1, aSet s.2.1 s.1 (sv, A, B), s.2.2) th wd R → only h h1 K45 → P (s.1 : Int) h1) : am_W z 102 0 0 h [some (.ref 43), some (vI sd), some (vI (x : Int)), some (vI (y : Int)), none] [vI sv, vI (s.1 : Int), .ref 45] := by
  obtain ⟨w0, w1, wr, ⟨⟨fs, s1, s2⟩, ⟨fa, a1, a2⟩, ⟨fb, b1, b2⟩⟩, w4, w5⟩ := w
  have loop : ∀ (m k : Nat) (H : am_H) (f f' : Nat → Int), k + m = 54 → H.2 43 = some (rO th wd s.1 s.2.2.1 s.2.2.2.2.1) → H.2 44 = some (eI 1920 R) → H.2 45 = some (eI 150 (am_fu fs s.1 sv)) → H.2 46 = some (eI 8100 f) → H.2 47 = some (eI 8100 f') → H.2 48 = some (eI 80 s.2.2.2.1) → H.2 49 = some (eL 32 s.2.2.2.2.2) → only h H K45 → (∀ j, (j < 54 * s.1 ∨ 54 * s.1 + 54 ≤ j) → f j = fa j ∧ f' j = fb j) → (∀ j, j < k → f (54 * s.1 + j) = (pg A j : Int) ∧ f' (54 * s.1 + j) = (pg B j : Int)) → am_W z 106 0 0 H [some (.ref 43), some (vI sd), some (vI (x : Int)), some (vI (y : Int)), some (vI (k : Int))] [] := by
    intro m
    induction m with
    | zero =>
      intro k H f f' hk e0 e1 e2 e3 e4 e5 e6 o g1 g2
      refine am_iload4 hC dX5_make_106 ?_
      refine am_bipush hC dX5_make_108 rfl ?_
      refine am_icmp_ge hC 171 dX5_make_110 rfl (by omega) (by omega) (fun c110 => ?_) (fun c110 => ?_)
      · refine am_aload0 hC dX5_make_171 ?_
        refine am_dup hC dX5_make_172 rfl ?_
        refine am_getf hC dX5_make_173 fX5_84 e0 rfl ?_
        refine am_iconst hC dX5_make_176 ?_
        refine am_iadd hC dX5_make_177 ?_
        refine am_putf hC dX5_make_178 pX5_84 (fun q => by cases q) e0 (am_fitI _) (Nat.le_of_ble_eq_true rfl) ?_
        refine am_heap (fun H2 q => ?_)
        have oo : only H H2 [43] := by rw [q]; exact only_up (by simp)
        have N0 : H2.2 43 = some (rO th wd (((s.1 + 1 : Nat)) : Int) s.2.2.1 s.2.2.2.2.1) := by rw [q]; exact am_up_at _ _ _
        clear q
        refine am_aload0 hC dX5_make_181 ?_
        refine am_getf hC dX5_make_182 fX5_84 N0 rfl ?_
        refine am_iconst hC dX5_make_185 ?_
        refine am_isub hC dX5_make_186 ?_
        rw [show (((s.1 + 1 : Nat)) : Int) - 1 = (s.1 : Int) by omega]
        refine am_iret hC hT dX5_make_187 (by omega) (by omega) ⟨_, rfl, fin H2 ⟨N0, (oo.2 44 (by simp)).trans e1, wr, ⟨⟨_, (oo.2 45 (by simp)).trans e2, fun i hi => ?_⟩, ⟨f, (oo.2 46 (by simp)).trans e3, fun i hi j hj => ?_⟩, ⟨f', (oo.2 47 (by simp)).trans e4, fun i hi j hj => ?_⟩⟩, (oo.2 48 (by simp)).trans e5, (oo.2 49 (by simp)).trans e6⟩ (o.tr (oo.wk (by simp)))⟩
        · unfold aSet; dsimp only
          by_cases c : i = s.1
          · rw [if_pos c, c, am_fu_at]
          · rw [if_neg c, am_fu_lt c]; exact s2 i hi
        · unfold aSet; dsimp only
          by_cases c : i = s.1
          · rw [if_pos c, c]; exact (g2 j (by omega)).1
          · rw [if_neg c, (g1 _ (by omega)).1]; exact a2 i hi j hj
        · unfold aSet; dsimp only
          by_cases c : i = s.1
          · rw [if_pos c, c]; exact (g2 j (by omega)).2
          · rw [if_neg c, (g1 _ (by omega)).2]; exact b2 i hi j hj
      · exact absurd c110 (by omega)
    | succ m ih =>
      intro k H f f' hk e0 e1 e2 e3 e4 e5 e6 o g1 g2
      have v8 := r8 k (by omega)
      have v7 := r7 k (by omega)
      refine am_iload4 hC dX5_make_106 ?_
      refine am_bipush hC dX5_make_108 rfl ?_
      refine am_icmp_ge hC 171 dX5_make_110 rfl (by omega) (by omega) (fun c110 => ?_) (fun c110 => ?_)
      · exact absurd c110 (by omega)
      · refine am_aload0 hC dX5_make_113 ?_
        refine am_getf hC dX5_make_114 fX5_20 e0 rfl ?_
        refine am_bipush hC dX5_make_117 rfl ?_
        refine am_aload0 hC dX5_make_119 ?_
        refine am_getf hC dX5_make_120 fX5_84 e0 rfl ?_
        refine am_imul hC dX5_make_123 ?_
        refine am_iload4 hC dX5_make_124 ?_
        refine am_iadd hC dX5_make_126 ?_
        refine am_aload0 hC dX5_make_127 ?_
        refine am_getf hC dX5_make_128 fX5_13 e0 rfl ?_
        refine am_sipush hC dX5_make_131 rfl ?_
        refine am_iload4 hC dX5_make_134 ?_
        refine am_iadd hC dX5_make_136 ?_
        refine am_iald hC dX5_make_137 e1 (by omega) (by omega) ?_
        rw [show ((1280 : Int) + (k : Int)) = ((160 * 8 + k : Nat) : Int) by omega, Int.toNat_natCast, v8, show (54 * (s.1 : Int) + (k : Int)) = ((54 * s.1 + k : Nat) : Int) by omega]
        refine am_iast hC dX5_make_138 e3 (by omega) (by omega) ?_
        rw [Int.toNat_natCast]
        refine am_heap (fun H2 q => ?_)
        have oo : only H H2 [46] := by rw [q]; exact only_up (by simp)
        have N3 : H2.2 46 = _ := (congrArg (fun H => H.2 46) q).trans (am_up_at _ _ _)
        clear q
        have N0 : H2.2 43 = _ := (oo.2 43 (by simp)).trans e0
        have N1 : H2.2 44 = _ := (oo.2 44 (by simp)).trans e1
        have N4 : H2.2 47 = _ := (oo.2 47 (by simp)).trans e4
        refine am_aload0 hC dX5_make_139 ?_
        refine am_getf hC dX5_make_140 fX5_23 N0 rfl ?_
        refine am_bipush hC dX5_make_143 rfl ?_
        refine am_aload0 hC dX5_make_145 ?_
        refine am_getf hC dX5_make_146 fX5_84 N0 rfl ?_
        refine am_imul hC dX5_make_149 ?_
        refine am_iload4 hC dX5_make_150 ?_
        refine am_iadd hC dX5_make_152 ?_
        refine am_aload0 hC dX5_make_153 ?_
        refine am_getf hC dX5_make_154 fX5_13 N0 rfl ?_
        refine am_sipush hC dX5_make_157 rfl ?_
        refine am_iload4 hC dX5_make_160 ?_
        refine am_iadd hC dX5_make_162 ?_
        refine am_iald hC dX5_make_163 N1 (by omega) (by omega) ?_
        rw [show ((1120 : Int) + (k : Int)) = ((160 * 7 + k : Nat) : Int) by omega, Int.toNat_natCast, v7, show (54 * (s.1 : Int) + (k : Int)) = ((54 * s.1 + k : Nat) : Int) by omega]
        refine am_iast hC dX5_make_164 N4 (by omega) (by omega) ?_
        rw [Int.toNat_natCast]
        refine am_heap (fun H3 q => ?_)
        have o3 : only H2 H3 [47] := by rw [q]; exact only_up (by simp)
        have M4 : H3.2 47 = _ := (congrArg (fun H => H.2 47) q).trans (am_up_at _ _ _)
        clear q
        refine am_iinc4 hC dX5_make_165 rfl ?_
        refine am_goto hC 106 dX5_make_168 rfl ?_
        rw [show (k : Int) + 1 = ((k + 1 : Nat) : Int) by omega]
        refine ih (k + 1) H3 _ _ (by omega) ((o3.2 43 (by simp)).trans N0) ((o3.2 44 (by simp)).trans N1) ((o3.2 45 (by simp)).trans ((oo.2 45 (by simp)).trans e2)) ((o3.2 46 (by simp)).trans N3) M4 ((o3.2 48 (by simp)).trans ((oo.2 48 (by simp)).trans e5)) ((o3.2 49 (by simp)).trans ((oo.2 49 (by simp)).trans e6)) (o.tr ((oo.wk (by simp)).tr (o3.wk (by simp)))) (fun j hj => ?_) (fun j hj => ?_)
        · rw [am_fu_lt (by omega), am_fu_lt (by omega)]; exact g1 j hj
        · by_cases e : j = k
          · subst e; rw [am_fu_at, am_fu_at]; exact ⟨rfl, rfl⟩
          · rw [am_fu_lt (by omega), am_fu_lt (by omega)]; exact g2 j (by omega)
  refine am_iast hC dX5_make_102 s1 (by omega) (by omega) ?_
  rw [Int.toNat_natCast]
  refine am_heap (fun H2 q => ?_)
  have oo : only h H2 [45] := by rw [q]; exact only_up (by simp)
  have N2 : H2.2 45 = _ := (congrArg (fun H => H.2 45) q).trans (am_up_at _ _ _)
  clear q
  refine am_iconst hC dX5_make_103 ?_
  refine am_istore4 hC dX5_make_104 rfl ?_
  exact loop 54 0 H2 fa fb rfl ((oo.2 43 (by simp)).trans w0) ((oo.2 44 (by simp)).trans w1) N2 ((oo.2 46 (by simp)).trans a1) ((oo.2 47 (by simp)).trans b1) ((oo.2 48 (by simp)).trans w4) ((oo.2 49 (by simp)).trans w5) (oo.wk (by simp)) (fun j _ => ⟨rfl, rfl⟩) (fun j hj => by omega)

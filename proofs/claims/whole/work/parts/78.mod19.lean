/-! the Model's share -/
theorem m_Mshare (l : Launch) (g : am_G) {h : am_H} {s : aS} {th whole k : Int} {wd : Nat} {R : Nat → Int} (w : eS h s th wd R) (q : WR s.2.2.2.2.2) (hw : -9223372036854775808 ≤ whole ∧ whole ≤ 9223372036854775807) (hk : IR k) :
    am_Met l g yX5_share (am_W1 yX5_share cX5_share 14 (some .long)) 1 0 0 [.ref 43, vL whole, vI k] h (qL fun v h1 => (okW k ∧ okH whole ∧ wS s.2.2.2.2.2 32 ≠ 0 ∧ v = aShare s whole k.toNat ∧ mOut h h1 0 s) ∨ (¬ okW k ∧ mOut h h1 1 s) ∨ (okW k ∧ ¬ okH whole ∧ mOut h h1 2 s) ∨ (okW k ∧ okH whole ∧ wS s.2.2.2.2.2 32 = 0 ∧ mOut h h1 3 s)) := by
  have h0 := w.1
  have h45 := w.2.2.2.2.2
  have sr := wS_r q 32 (by omega)
  refine am_mk [some (.ref 43), some (vL whole), none, some (vI k), none, none, none, none, none, none, none, none, none, none] 10 rfl rfl (by decide +kernel) (fun z hl hg hC hT _ => ?_)
  obtain ⟨al, hal⟩ : ∃ al, al = wS s.2.2.2.2.2 32 := ⟨_, rfl⟩
  have tv : ∀ (t : Int) (H : am_H), H = am_up h 43 (rO t wd s.1 s.2.2.1 s.2.2.2.2.1) → eS H s t wd R ∧ only h H K45 := fun t H et => by rw [et]; exact ⟨w.o w.2.2.1, only.o⟩
  rw [← hal] at hT sr
  have bad : ∀ (H : am_H) (e : Int) (y6 : Option Value), 1 ≤ e ∧ e ≤ 3 → H = am_up h 43 (rO e wd s.1 s.2.2.1 s.2.2.2.2.1) → ((e = 1 ∧ ¬ okW k) ∨ (e = 2 ∧ okW k ∧ ¬ okH whole) ∨ (e = 3 ∧ okW k ∧ okH whole ∧ al = 0)) → am_W z 79 0 0 H [some (.ref 43), some (vL whole), none, some (vI k), some (vL al), none, y6, none, none, none, none, none, none, none] [] := by
    intro H e y6 he e1 nb
    have v2 := tv e H e1
    have k2 := v2.1.1
    refine am_aload0 hC dX5_share_79 ?_
    refine am_getf hC dX5_share_80 fX5_33 k2 rfl ?_
    refine am_if_le hC 88 dX5_share_83 rfl (by omega) (fun c83 => ?_) (fun c83 => ?_)
    · exact absurd c83 (by omega)
    · refine am_lconst0 hC dX5_share_86 ?_
      exact am_lret hC hT dX5_share_87 (by omega) (by omega) ⟨_, rfl, Or.inr (by rcases nb with ⟨rfl, x⟩ | ⟨rfl, x, y⟩ | ⟨rfl, x, y, t⟩; (· exact Or.inl ⟨x, ⟨_, _, v2.1⟩, v2.2⟩); (· exact Or.inr (Or.inl ⟨x, y, ⟨_, _, v2.1⟩, v2.2⟩)); (· exact Or.inr (Or.inr ⟨x, y, t, ⟨_, _, v2.1⟩, v2.2⟩)))⟩
  have good : ∀ (H : am_H) (y6 : Option Value), H = am_up h 43 (rO 0 wd s.1 s.2.2.1 s.2.2.2.2.1) → okW k → okH whole → al ≠ 0 → am_W z 79 0 0 H [some (.ref 43), some (vL whole), none, some (vI k), some (vL al), none, y6, none, none, none, none, none, none, none] [] := by
    intro H y6 e1 o1 hwo o3
    have v2 := tv 0 H e1
    have k2 := v2.1.1
    have k45 := v2.1.2.2.2.2.2
    have o11 := o1.1
    have o12 := o1.2
    have pk := wp_r hwo (q k.toNat (by omega))
    have ap : 0 < al := by omega
    obtain ⟨rest, hr⟩ : ∃ rest, rest = (whole * s.2.2.2.2.2 k.toNat).tmod al := ⟨_, rfl⟩
    have rr : ∀ v : Int, 0 ≤ v → 0 ≤ v.tmod al ∧ v.tmod al ≤ 32000000000 := fun v hv => by
      rw [Int.tmod_eq_emod_of_nonneg hv]
      have := Int.emod_lt_of_pos v ap
      exact ⟨Int.emod_nonneg _ (by omega), by omega⟩
    have hrr := rr _ pk.1
    rw [← hr] at hrr
    have kt : ((k.toNat : Nat) : Int) = k := by omega
    have sh : aShare s whole k.toNat = (whole * s.2.2.2.2.2 k.toNat).tdiv al + (if wB whole al s.2.2.2.2.2 rest k 32 < wL whole al s.2.2.2.2.2 32 then 1 else 0) := by rw [aShare, ← hal, ← hr, kt]
    have l1 := (wL_r (al := al) q hwo ap 32 (by omega)).1
    have l0 : 0 ≤ wL whole al s.2.2.2.2.2 32 := by rw [hal]; exact wL_0 q hwo (by omega)
    have b0 := wB_r s.2.2.2.2.2 whole al rest k 32
    have hw1 := hwo.1
    have hw2 := hwo.2
    have loop : ∀ (m i : Nat) (y12 y13 : Option Value), i + m = 32 → am_W z 110 0 0 H [some (.ref 43), some (vL whole), none, some (vI k), some (vL al), none, some (vL (wL whole al s.2.2.2.2.2 i)), none, some (vI (wB whole al s.2.2.2.2.2 rest k i)), some (vL rest), none, some (vI (i : Int)), y12, y13] [] := by
      intro m
      induction m with
      | zero =>
        intro i y12 y13 hi
        rw [show i = 32 by omega]
        refine am_iload11 hC dX5_share_110 ?_
        refine am_bipush hC dX5_share_112 rfl ?_
        refine am_icmp_ge hC 187 dX5_share_114 rfl (by omega) (by omega) (fun c114 => ?_) (fun c114 => ?_)
        · refine am_lload1 hC dX5_share_187 ?_
          refine am_aload0 hC dX5_share_188 ?_
          refine am_getf hC dX5_share_189 fX5_29 k2 rfl ?_
          refine am_iload3 hC dX5_share_192 ?_
          refine am_lald hC dX5_share_193 k45 (by omega) (by omega) ?_
          refine am_lmul hC dX5_share_194 ?_
          refine am_lload4 hC dX5_share_195 ?_
          refine am_ldiv hC dX5_share_197 (by omega) (by omega) (by omega) ?_
          refine am_iload8 hC dX5_share_198 ?_
          refine am_i2l hC dX5_share_200 (by omega) ?_
          refine am_lload6 hC dX5_share_201 ?_
          refine am_lif_ge hC 211 dX5_share_203 dX5_share_204 rfl (by omega) (by omega) (fun c204 => ?_) (fun c204 => ?_)
          · refine am_lconst0 hC dX5_share_211 ?_
            refine am_ladd hC dX5_share_212 ?_
            first
              | exact am_lret hC hT dX5_share_213 (by omega) (by omega) ⟨_, rfl, Or.inl ⟨o1, hwo, o3, by rw [sh, if_pos (by omega)], ⟨_, _, v2.1⟩, v2.2⟩⟩
              | exact am_lret hC hT dX5_share_213 (by omega) (by omega) ⟨_, rfl, Or.inl ⟨o1, hwo, o3, by rw [sh, if_neg (by omega)], ⟨_, _, v2.1⟩, v2.2⟩⟩
          · refine am_lconst1 hC dX5_share_207 ?_
            refine am_goto hC 212 dX5_share_208 rfl ?_
            refine am_ladd hC dX5_share_212 ?_
            first
              | exact am_lret hC hT dX5_share_213 (by omega) (by omega) ⟨_, rfl, Or.inl ⟨o1, hwo, o3, by rw [sh, if_pos (by omega)], ⟨_, _, v2.1⟩, v2.2⟩⟩
              | exact am_lret hC hT dX5_share_213 (by omega) (by omega) ⟨_, rfl, Or.inl ⟨o1, hwo, o3, by rw [sh, if_neg (by omega)], ⟨_, _, v2.1⟩, v2.2⟩⟩
        · exact absurd c114 (by omega)
      | succ m ih =>
        intro i y12 y13 hi
        have p := wp_r hwo (q i (by omega))
        have p2 := rr _ p.1
        obtain ⟨ot, hot⟩ : ∃ ot, ot = (whole * s.2.2.2.2.2 i).tmod al := ⟨_, rfl⟩
        rw [← hot] at p2
        have st : ∀ b : Int, (b = 1 ∧ (rest < ot ∨ (rest = ot ∧ (i : Int) < k))) ∨ (b = 0 ∧ ¬ (rest < ot ∨ (rest = ot ∧ (i : Int) < k))) → wB whole al s.2.2.2.2.2 rest k (i + 1) = wB whole al s.2.2.2.2.2 rest k i + b := by
          intro b hb
          show wB whole al s.2.2.2.2.2 rest k i + (if rest < (whole * s.2.2.2.2.2 i).tmod al ∨ (rest = (whole * s.2.2.2.2.2 i).tmod al ∧ (i : Int) < k) then 1 else 0) = _
          rw [← hot]
          rcases hb with ⟨rfl, c⟩ | ⟨rfl, c⟩
          · rw [if_pos c]
          · rw [if_neg c]
        refine am_iload11 hC dX5_share_110 ?_
        refine am_bipush hC dX5_share_112 rfl ?_
        refine am_icmp_ge hC 187 dX5_share_114 rfl (by omega) (by omega) (fun c114 => ?_) (fun c114 => ?_)
        · exact absurd c114 (by omega)
        · refine am_lload1 hC dX5_share_117 ?_
          refine am_aload0 hC dX5_share_118 ?_
          refine am_getf hC dX5_share_119 fX5_29 k2 rfl ?_
          refine am_iload11 hC dX5_share_122 ?_
          refine am_lald hC dX5_share_124 k45 (by omega) (by omega) ?_
          refine am_lmul hC dX5_share_125 ?_
          refine am_lload4 hC dX5_share_126 ?_
          rw [Int.toNat_natCast]
          refine am_lrem hC dX5_share_128 (by omega) (by omega) (by omega) ?_
          rw [← hot]
          refine am_lstore12 hC dX5_share_129 rfl ?_
          refine am_lload6 hC dX5_share_131 ?_
          refine am_lload1 hC dX5_share_133 ?_
          refine am_aload0 hC dX5_share_134 ?_
          refine am_getf hC dX5_share_135 fX5_29 k2 rfl ?_
          refine am_iload11 hC dX5_share_138 ?_
          refine am_lald hC dX5_share_140 k45 (by omega) (by omega) ?_
          refine am_lmul hC dX5_share_141 ?_
          refine am_lload4 hC dX5_share_142 ?_
          rw [Int.toNat_natCast]
          refine am_ldiv hC dX5_share_144 (by omega) (by omega) (by omega) ?_
          refine am_lsub hC dX5_share_145 ?_
          refine am_lstore6 hC dX5_share_146 rfl ?_
          refine am_lload12 hC dX5_share_148 ?_
          refine am_lload9 hC dX5_share_150 ?_
          refine am_lif_gt hC 170 dX5_share_152 dX5_share_153 rfl (by omega) (by omega) (fun c153 => ?_) (fun c153 => ?_)
          · refine am_iload8 hC dX5_share_170 ?_
            refine am_iconst hC dX5_share_172 ?_
            refine am_iadd hC dX5_share_173 ?_
            refine am_goto hC 179 dX5_share_174 rfl ?_
            refine am_istore8 hC dX5_share_179 rfl ?_
            refine am_iinc11 hC dX5_share_181 rfl ?_
            refine am_goto hC 110 dX5_share_184 rfl ?_
            rw [show (i : Int) + 1 = ((i + 1 : Nat) : Int) by omega]
            first
              | rw [← st 1 (Or.inl ⟨rfl, by omega⟩)]; exact ih (i + 1) _ _ (by omega)
              | have e := st 0 (Or.inr ⟨rfl, by omega⟩); rw [Int.add_zero] at e; rw [← e]; exact ih (i + 1) _ _ (by omega)
          · refine am_lload12 hC dX5_share_156 ?_
            refine am_lload9 hC dX5_share_158 ?_
            refine am_lif_ne hC 177 dX5_share_160 dX5_share_161 rfl (by omega) (by omega) (fun c161 => ?_) (fun c161 => ?_)
            · refine am_iload8 hC dX5_share_177 ?_
              refine am_istore8 hC dX5_share_179 rfl ?_
              refine am_iinc11 hC dX5_share_181 rfl ?_
              refine am_goto hC 110 dX5_share_184 rfl ?_
              rw [show (i : Int) + 1 = ((i + 1 : Nat) : Int) by omega]
              first
                | rw [← st 1 (Or.inl ⟨rfl, by omega⟩)]; exact ih (i + 1) _ _ (by omega)
                | have e := st 0 (Or.inr ⟨rfl, by omega⟩); rw [Int.add_zero] at e; rw [← e]; exact ih (i + 1) _ _ (by omega)
            · refine am_iload11 hC dX5_share_164 ?_
              refine am_iload3 hC dX5_share_166 ?_
              refine am_icmp_ge hC 177 dX5_share_167 rfl (by omega) (by omega) (fun c167 => ?_) (fun c167 => ?_)
              · refine am_iload8 hC dX5_share_177 ?_
                refine am_istore8 hC dX5_share_179 rfl ?_
                refine am_iinc11 hC dX5_share_181 rfl ?_
                refine am_goto hC 110 dX5_share_184 rfl ?_
                rw [show (i : Int) + 1 = ((i + 1 : Nat) : Int) by omega]
                first
                  | rw [← st 1 (Or.inl ⟨rfl, by omega⟩)]; exact ih (i + 1) _ _ (by omega)
                  | have e := st 0 (Or.inr ⟨rfl, by omega⟩); rw [Int.add_zero] at e; rw [← e]; exact ih (i + 1) _ _ (by omega)
              · refine am_iload8 hC dX5_share_170 ?_
                refine am_iconst hC dX5_share_172 ?_
                refine am_iadd hC dX5_share_173 ?_
                refine am_goto hC 179 dX5_share_174 rfl ?_
                refine am_istore8 hC dX5_share_179 rfl ?_
                refine am_iinc11 hC dX5_share_181 rfl ?_
                refine am_goto hC 110 dX5_share_184 rfl ?_
                rw [show (i : Int) + 1 = ((i + 1 : Nat) : Int) by omega]
                first
                  | rw [← st 1 (Or.inl ⟨rfl, by omega⟩)]; exact ih (i + 1) _ _ (by omega)
                  | have e := st 0 (Or.inr ⟨rfl, by omega⟩); rw [Int.add_zero] at e; rw [← e]; exact ih (i + 1) _ _ (by omega)
    refine am_aload0 hC dX5_share_79 ?_
    refine am_getf hC dX5_share_80 fX5_33 k2 rfl ?_
    refine am_if_le hC 88 dX5_share_83 rfl (by omega) (fun c83 => ?_) (fun c83 => ?_)
    · refine am_lload1 hC dX5_share_88 ?_
      refine am_lstore6 hC dX5_share_89 rfl ?_
      refine am_iconst hC dX5_share_91 ?_
      refine am_istore8 hC dX5_share_92 rfl ?_
      refine am_lload1 hC dX5_share_94 ?_
      refine am_aload0 hC dX5_share_95 ?_
      refine am_getf hC dX5_share_96 fX5_29 k2 rfl ?_
      refine am_iload3 hC dX5_share_99 ?_
      refine am_lald hC dX5_share_100 k45 (by omega) (by omega) ?_
      refine am_lmul hC dX5_share_101 ?_
      refine am_lload4 hC dX5_share_102 ?_
      refine am_lrem hC dX5_share_104 (by omega) (by omega) (by omega) ?_
      rw [← hr]
      refine am_lstore9 hC dX5_share_105 rfl ?_
      refine am_iconst hC dX5_share_107 ?_
      refine am_istore11 hC dX5_share_108 rfl ?_
      exact loop 32 0 _ _ rfl
    · exact absurd c83 (by decide)
  have sum : ∀ (m i : Nat), i + m = 32 → am_W z 6 0 0 h [some (.ref 43), some (vL whole), none, some (vI k), some (vL (wS s.2.2.2.2.2 i)), none, some (vI (i : Int)), none, none, none, none, none, none, none] [] := by
    intro m
    induction m with
    | zero =>
      intro i hi
      rw [show i = 32 by omega, ← hal]
      refine am_iload6 hC dX5_share_6 ?_
      refine am_bipush hC dX5_share_8 rfl ?_
      refine am_icmp_ge hC 31 dX5_share_10 rfl (by omega) (by omega) (fun c10 => ?_) (fun c10 => ?_)
      · refine am_aload0 hC dX5_share_31 ?_
        refine am_iload3 hC dX5_share_32 ?_
        refine am_if_lt hC 42 dX5_share_33 rfl (by omega) (fun c33 => ?_) (fun c33 => ?_)
        · refine am_iconst hC dX5_share_42 ?_
          refine am_goto hC 76 dX5_share_43 rfl ?_
          refine am_putf hC dX5_share_76 pX5_33 (fun q => by cases q) h0 (am_fitI _) (Nat.le_of_ble_eq_true rfl) ?_
          rw [rO_set0]
          first
            | exact bad _ 1 _ (by omega) rfl (Or.inl ⟨rfl, by unfold okW; omega⟩)
            | exact bad _ 2 _ (by omega) rfl (Or.inr (Or.inl ⟨rfl, ⟨by omega, by omega⟩, by unfold okH; omega⟩))
            | exact bad _ 3 _ (by omega) rfl (Or.inr (Or.inr ⟨rfl, ⟨by omega, by omega⟩, ⟨by omega, by omega⟩, by omega⟩))
            | exact good _ _ rfl ⟨by omega, by omega⟩ ⟨by omega, by omega⟩ (by omega)
        · refine am_iload3 hC dX5_share_36 ?_
          refine am_bipush hC dX5_share_37 rfl ?_
          refine am_icmp_lt hC 46 dX5_share_39 rfl (by omega) (by omega) (fun c39 => ?_) (fun c39 => ?_)
          · refine am_lload1 hC dX5_share_46 ?_
            refine am_lconst0 hC dX5_share_47 ?_
            refine am_lif_lt hC 60 dX5_share_48 dX5_share_49 rfl (by omega) (by omega) (fun c49 => ?_) (fun c49 => ?_)
            · refine am_iconst hC dX5_share_60 ?_
              refine am_goto hC 76 dX5_share_61 rfl ?_
              refine am_putf hC dX5_share_76 pX5_33 (fun q => by cases q) h0 (am_fitI _) (Nat.le_of_ble_eq_true rfl) ?_
              rw [rO_set0]
              first
                | exact bad _ 1 _ (by omega) rfl (Or.inl ⟨rfl, by unfold okW; omega⟩)
                | exact bad _ 2 _ (by omega) rfl (Or.inr (Or.inl ⟨rfl, ⟨by omega, by omega⟩, by unfold okH; omega⟩))
                | exact bad _ 3 _ (by omega) rfl (Or.inr (Or.inr ⟨rfl, ⟨by omega, by omega⟩, ⟨by omega, by omega⟩, by omega⟩))
                | exact good _ _ rfl ⟨by omega, by omega⟩ ⟨by omega, by omega⟩ (by omega)
            · refine am_lload1 hC dX5_share_52 ?_
              refine am_ldc2 hC (1000000000) dX5_share_53 cX5_132 rfl ?_
              refine am_lif_le hC 64 dX5_share_56 dX5_share_57 rfl (by omega) (by omega) (fun c57 => ?_) (fun c57 => ?_)
              · refine am_lload4 hC dX5_share_64 ?_
                refine am_lconst0 hC dX5_share_66 ?_
                refine am_lif_ne hC 75 dX5_share_67 dX5_share_68 rfl (by omega) (by omega) (fun c68 => ?_) (fun c68 => ?_)
                · refine am_iconst hC dX5_share_75 ?_
                  refine am_putf hC dX5_share_76 pX5_33 (fun q => by cases q) h0 (am_fitI _) (Nat.le_of_ble_eq_true rfl) ?_
                  rw [rO_set0]
                  first
                    | exact bad _ 1 _ (by omega) rfl (Or.inl ⟨rfl, by unfold okW; omega⟩)
                    | exact bad _ 2 _ (by omega) rfl (Or.inr (Or.inl ⟨rfl, ⟨by omega, by omega⟩, by unfold okH; omega⟩))
                    | exact bad _ 3 _ (by omega) rfl (Or.inr (Or.inr ⟨rfl, ⟨by omega, by omega⟩, ⟨by omega, by omega⟩, by omega⟩))
                    | exact good _ _ rfl ⟨by omega, by omega⟩ ⟨by omega, by omega⟩ (by omega)
                · refine am_iconst hC dX5_share_71 ?_
                  refine am_goto hC 76 dX5_share_72 rfl ?_
                  refine am_putf hC dX5_share_76 pX5_33 (fun q => by cases q) h0 (am_fitI _) (Nat.le_of_ble_eq_true rfl) ?_
                  rw [rO_set0]
                  first
                    | exact bad _ 1 _ (by omega) rfl (Or.inl ⟨rfl, by unfold okW; omega⟩)
                    | exact bad _ 2 _ (by omega) rfl (Or.inr (Or.inl ⟨rfl, ⟨by omega, by omega⟩, by unfold okH; omega⟩))
                    | exact bad _ 3 _ (by omega) rfl (Or.inr (Or.inr ⟨rfl, ⟨by omega, by omega⟩, ⟨by omega, by omega⟩, by omega⟩))
                    | exact good _ _ rfl ⟨by omega, by omega⟩ ⟨by omega, by omega⟩ (by omega)
              · refine am_iconst hC dX5_share_60 ?_
                refine am_goto hC 76 dX5_share_61 rfl ?_
                refine am_putf hC dX5_share_76 pX5_33 (fun q => by cases q) h0 (am_fitI _) (Nat.le_of_ble_eq_true rfl) ?_
                rw [rO_set0]
                first
                  | exact bad _ 1 _ (by omega) rfl (Or.inl ⟨rfl, by unfold okW; omega⟩)
                  | exact bad _ 2 _ (by omega) rfl (Or.inr (Or.inl ⟨rfl, ⟨by omega, by omega⟩, by unfold okH; omega⟩))
                  | exact bad _ 3 _ (by omega) rfl (Or.inr (Or.inr ⟨rfl, ⟨by omega, by omega⟩, ⟨by omega, by omega⟩, by omega⟩))
                  | exact good _ _ rfl ⟨by omega, by omega⟩ ⟨by omega, by omega⟩ (by omega)
          · refine am_iconst hC dX5_share_42 ?_
            refine am_goto hC 76 dX5_share_43 rfl ?_
            refine am_putf hC dX5_share_76 pX5_33 (fun q => by cases q) h0 (am_fitI _) (Nat.le_of_ble_eq_true rfl) ?_
            rw [rO_set0]
            first
              | exact bad _ 1 _ (by omega) rfl (Or.inl ⟨rfl, by unfold okW; omega⟩)
              | exact bad _ 2 _ (by omega) rfl (Or.inr (Or.inl ⟨rfl, ⟨by omega, by omega⟩, by unfold okH; omega⟩))
              | exact bad _ 3 _ (by omega) rfl (Or.inr (Or.inr ⟨rfl, ⟨by omega, by omega⟩, ⟨by omega, by omega⟩, by omega⟩))
              | exact good _ _ rfl ⟨by omega, by omega⟩ ⟨by omega, by omega⟩ (by omega)
      · exact absurd c10 (by omega)
    | succ m ih =>
      intro i hi
      refine am_iload6 hC dX5_share_6 ?_
      refine am_bipush hC dX5_share_8 rfl ?_
      refine am_icmp_ge hC 31 dX5_share_10 rfl (by omega) (by omega) (fun c10 => ?_) (fun c10 => ?_)
      · exact absurd c10 (by omega)
      · refine am_lload4 hC dX5_share_13 ?_
        refine am_aload0 hC dX5_share_15 ?_
        refine am_getf hC dX5_share_16 fX5_29 h0 rfl ?_
        refine am_iload6 hC dX5_share_19 ?_
        refine am_lald hC dX5_share_21 h45 (by omega) (by omega) ?_
        refine am_ladd hC dX5_share_22 ?_
        refine am_lstore4 hC dX5_share_23 rfl ?_
        refine am_iinc6 hC dX5_share_25 rfl ?_
        refine am_goto hC 6 dX5_share_28 rfl ?_
        rw [show (i : Int) + 1 = ((i + 1 : Nat) : Int) by omega, Int.toNat_natCast]
        exact ih (i + 1) (by omega)
  refine am_lconst0 hC dX5_share_0 ?_
  refine am_lstore4 hC dX5_share_1 rfl ?_
  refine am_iconst hC dX5_share_3 ?_
  refine am_istore6 hC dX5_share_4 rfl ?_
  exact sum 32 0 rfl

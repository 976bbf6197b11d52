/-! weights: weight, clearWeights, share -/
def wS (W : Nat → Int) : Nat → Int
  | 0 => 0
  | n + 1 => wS W n + W n
def wL (whole al : Int) (W : Nat → Int) : Nat → Int
  | 0 => whole
  | n + 1 => wL whole al W n - (whole * W n).tdiv al
def wB (whole al : Int) (W : Nat → Int) (rest : Int) (k : Int) : Nat → Int
  | 0 => 0
  | n + 1 => wB whole al W rest k n + (if rest < (whole * W n).tmod al ∨ (rest = (whole * W n).tmod al ∧ (n : Int) < k) then 1 else 0)
def WR (W : Nat → Int) : Prop := ∀ i, i < 32 → 0 ≤ W i ∧ W i ≤ 1000000000
theorem wS_r {W : Nat → Int} (q : WR W) : ∀ n, n ≤ 32 → 0 ≤ wS W n ∧ wS W n ≤ 1000000000 * (n : Int) := by
  intro n
  induction n with
  | zero => intro _; unfold wS; omega
  | succ n ih =>
    intro hn
    have h1 := ih (by omega)
    have h2 := q n (by omega)
    unfold wS
    omega
theorem wS_mono {W : Nat → Int} (q : WR W) : ∀ n, n ≤ 32 → wS W n ≤ wS W 32 := by
  have step : ∀ m n, n + m = 32 → wS W n ≤ wS W 32 := by
    intro m
    induction m with
    | zero => intro n hn; rw [show n = 32 by omega]; omega
    | succ m ih =>
      intro n hn
      have h1 := ih (n + 1) (by omega)
      have h2 := q n (by omega)
      have h3 : wS W (n + 1) = wS W n + W n := rfl
      omega
  exact fun n hn => step (32 - n) n (by omega)
theorem wp_r {whole v : Int} (h : 0 ≤ whole ∧ whole ≤ 1000000000) (q : 0 ≤ v ∧ v ≤ 1000000000) : 0 ≤ whole * v ∧ whole * v ≤ 1000000000000000000 := by
  have h1 := Int.mul_nonneg h.1 q.1
  have h2 := Int.mul_le_mul h.2 q.2 q.1 (by decide : (0 : Int) ≤ 1000000000)
  omega
theorem wL_r {W : Nat → Int} {whole al : Int} (q : WR W) (h : 0 ≤ whole ∧ whole ≤ 1000000000) (ha : 0 < al) : ∀ n, n ≤ 32 → wL whole al W n ≤ whole ∧ al * (whole - wL whole al W n) ≤ whole * wS W n := by
  intro n
  induction n with
  | zero => intro _; unfold wL wS; rw [Int.sub_self, Int.mul_zero, Int.mul_zero]; omega
  | succ n ih =>
    intro hn
    have h1 := ih (by omega)
    have h2 := wp_r h (q n (by omega))
    have h3 : (whole * W n).tdiv al = (whole * W n) / al := Int.tdiv_eq_ediv_of_nonneg h2.1
    have h4 : 0 ≤ (whole * W n) / al := Int.ediv_nonneg h2.1 (by omega)
    have h5 : al * ((whole * W n) / al) ≤ whole * W n := Int.mul_ediv_self_le (by omega)
    have e1 : wL whole al W (n + 1) = wL whole al W n - (whole * W n) / al := by rw [← h3]; rfl
    have e2 : wS W (n + 1) = wS W n + W n := rfl
    refine ⟨by omega, ?_⟩
    rw [e1, e2, Int.mul_add, show whole - (wL whole al W n - whole * W n / al) = (whole - wL whole al W n) + whole * W n / al by omega, Int.mul_add]
    omega
theorem wL_0 {W : Nat → Int} {whole : Int} (q : WR W) (h : 0 ≤ whole ∧ whole ≤ 1000000000) (ha : 0 < wS W 32) : 0 ≤ wL whole (wS W 32) W 32 := by
  have h1 := (wL_r q h ha 32 (by omega)).2
  rcases Int.lt_or_le (wL whole (wS W 32) W 32) 0 with c | c
  · exfalso
    have h2 : wS W 32 * (whole + 1) ≤ wS W 32 * (whole - wL whole (wS W 32) W 32) := Int.mul_le_mul_of_nonneg_left (by omega) (by omega)
    rw [Int.mul_add, Int.mul_one, Int.mul_comm (wS W 32) whole] at h2
    omega
  · exact c
theorem wB_r (W : Nat → Int) (whole al rest k : Int) : ∀ n, 0 ≤ wB whole al W rest k n ∧ wB whole al W rest k n ≤ (n : Int) := by
  intro n
  induction n with
  | zero => unfold wB; omega
  | succ n ih =>
    unfold wB
    split <;> omega
theorem m_sumOfWeights (l : Launch) (g : am_G) {h : am_H} {s : aS} (w : kS h s) (q : WR s.2.2.2.2.2) :
    am_Met l g yX4_sumOfWeights (am_W1 yX4_sumOfWeights cX4_sumOfWeights 8 (some .long)) 1 0 0 [.ref 0] h (pL (wS s.2.2.2.2.2 32) h) := by
  have h0 := w.1
  have h3 := w.2.2.2.1
  refine am_mk [some (.ref 0), none, none, none, none, none, none, none] 7 rfl rfl (by decide +kernel) (fun x hl hg hC hT _ => ?_)
  have loop : ∀ (m i : Nat) (y6 y7 : Option Value), i + m = 32 → am_W x 14 0 0 h [some (.ref 0), some (vL (wS s.2.2.2.2.2 i)), none, some (.ref 12), some (vI 32), some (vI (i : Int)), y6, y7] [] := by
    intro m
    induction m with
    | zero =>
      intro i y6 y7 hi
      rw [show i = 32 by omega]
      refine am_iload5 hC dX4_sumOfWeights_14 ?_
      refine am_iload4 hC dX4_sumOfWeights_16 ?_
      refine am_icmp_ge hC 38 dX4_sumOfWeights_18 rfl (by omega) (by omega) (fun c18 => ?_) (fun c18 => ?_)
      · refine am_lload1 hC dX4_sumOfWeights_38 ?_
        exact am_lret hC hT dX4_sumOfWeights_39 (Nat.le_refl _) (Nat.le_refl _) ⟨rfl, rfl⟩
      · exact absurd c18 (by omega)
    | succ m ih =>
      intro i y6 y7 hi
      refine am_iload5 hC dX4_sumOfWeights_14 ?_
      refine am_iload4 hC dX4_sumOfWeights_16 ?_
      refine am_icmp_ge hC 38 dX4_sumOfWeights_18 rfl (by omega) (by omega) (fun c18 => ?_) (fun c18 => ?_)
      · exact absurd c18 (by omega)
      · refine am_aload3 hC dX4_sumOfWeights_21 ?_
        refine am_iload5 hC dX4_sumOfWeights_22 ?_
        refine am_lald hC dX4_sumOfWeights_24 h3 (by omega) (by omega) ?_
        refine am_lstore6 hC dX4_sumOfWeights_25 rfl ?_
        refine am_lload1 hC dX4_sumOfWeights_27 ?_
        refine am_lload6 hC dX4_sumOfWeights_28 ?_
        refine am_ladd hC dX4_sumOfWeights_30 ?_
        refine am_lstore1 hC dX4_sumOfWeights_31 rfl ?_
        refine am_iinc5 hC dX4_sumOfWeights_32 rfl ?_
        refine am_goto hC 14 dX4_sumOfWeights_35 rfl ?_
        rw [show (i : Int) + 1 = ((i + 1 : Nat) : Int) by omega]
        rw [Int.toNat_natCast]
        exact ih (i + 1) _ _ (by omega)
  refine am_lconst0 hC dX4_sumOfWeights_0 ?_
  refine am_lstore1 hC dX4_sumOfWeights_1 rfl ?_
  refine am_aload0 hC dX4_sumOfWeights_2 ?_
  refine am_getf hC dX4_sumOfWeights_3 fX4_32 h0 rfl ?_
  refine am_astore3 hC dX4_sumOfWeights_6 rfl ?_
  refine am_aload3 hC dX4_sumOfWeights_7 ?_
  refine am_alenL hC dX4_sumOfWeights_8 h3 ?_
  refine am_istore4 hC dX4_sumOfWeights_9 rfl ?_
  refine am_iconst hC dX4_sumOfWeights_11 ?_
  refine am_istore5 hC dX4_sumOfWeights_12 rfl ?_
  exact loop 32 0 _ _ rfl
theorem m_leftOver (l : Launch) (g : am_G) {h : am_H} {s : aS} {whole al : Int} (w : kS h s) (q : WR s.2.2.2.2.2) (hw : 0 ≤ whole ∧ whole ≤ 1000000000) (ha : 0 < al ∧ al ≤ 32000000000) :
    am_Met l g yX4_leftOver (am_W1 yX4_leftOver cX4_leftOver 12 (some .long)) 1 0 0 [.ref 0, vL whole, vL al] h (pL (wL whole al s.2.2.2.2.2 32) h) := by
  have h0 := w.1
  have h3 := w.2.2.2.1
  refine am_mk [some (.ref 0), some (vL whole), none, some (vL al), none, none, none, none, none, none, none, none] 7 rfl rfl (by decide +kernel) (fun x hl hg hC hT _ => ?_)
  have loop : ∀ (m i : Nat) (y10 y11 : Option Value), i + m = 32 → am_W x 17 0 0 h [some (.ref 0), some (vL whole), none, some (vL al), none, some (vL (wL whole al s.2.2.2.2.2 i)), none, some (.ref 12), some (vI 32), some (vI (i : Int)), y10, y11] [] := by
    intro m
    induction m with
    | zero =>
      intro i y6 y7 hi
      rw [show i = 32 by omega]
      refine am_iload9 hC dX4_leftOver_17 ?_
      refine am_iload8 hC dX4_leftOver_19 ?_
      refine am_icmp_ge hC 58 dX4_leftOver_21 rfl (by omega) (by omega) (fun c21 => ?_) (fun c21 => ?_)
      · refine am_lload5 hC dX4_leftOver_58 ?_
        exact am_lret hC hT dX4_leftOver_60 (Nat.le_refl _) (Nat.le_refl _) ⟨rfl, rfl⟩
      · exact absurd c21 (by omega)
    | succ m ih =>
      intro i y6 y7 hi
      have p := wp_r hw (q i (by omega))
      refine am_iload9 hC dX4_leftOver_17 ?_
      refine am_iload8 hC dX4_leftOver_19 ?_
      refine am_icmp_ge hC 58 dX4_leftOver_21 rfl (by omega) (by omega) (fun c21 => ?_) (fun c21 => ?_)
      · exact absurd c21 (by omega)
      · refine am_aload7 hC dX4_leftOver_24 ?_
        refine am_iload9 hC dX4_leftOver_26 ?_
        refine am_lald hC dX4_leftOver_28 h3 (by omega) (by omega) ?_
        refine am_lstore10 hC dX4_leftOver_29 rfl ?_
        refine am_lload5 hC dX4_leftOver_31 ?_
        refine am_lload3 hC dX4_leftOver_33 ?_
        refine am_lconst0 hC dX4_leftOver_34 ?_
        refine am_lif_le hC 48 dX4_leftOver_35 dX4_leftOver_36 rfl (by omega) (by omega) (fun c36 => ?_) (fun c36 => ?_)
        · exact absurd c36 (by omega)
        · refine am_lload1 hC dX4_leftOver_39 ?_
          refine am_lload10 hC dX4_leftOver_40 ?_
          refine am_lmul hC dX4_leftOver_42 ?_
          refine am_lload3 hC dX4_leftOver_43 ?_
          rw [Int.toNat_natCast]
          refine am_ldiv hC dX4_leftOver_44 (by omega) (by omega) (by omega) ?_
          refine am_goto hC 49 dX4_leftOver_45 rfl ?_
          refine am_lsub hC dX4_leftOver_49 ?_
          refine am_lstore5 hC dX4_leftOver_50 rfl ?_
          refine am_iinc9 hC dX4_leftOver_52 rfl ?_
          refine am_goto hC 17 dX4_leftOver_55 rfl ?_
          rw [show (i : Int) + 1 = ((i + 1 : Nat) : Int) by omega]
          exact ih (i + 1) _ _ (by omega)
  refine am_lload1 hC dX4_leftOver_0 ?_
  refine am_lstore5 hC dX4_leftOver_1 rfl ?_
  refine am_aload0 hC dX4_leftOver_3 ?_
  refine am_getf hC dX4_leftOver_4 fX4_32 h0 rfl ?_
  refine am_astore7 hC dX4_leftOver_7 rfl ?_
  refine am_aload7 hC dX4_leftOver_9 ?_
  refine am_alenL hC dX4_leftOver_11 h3 ?_
  refine am_istore8 hC dX4_leftOver_12 rfl ?_
  refine am_iconst hC dX4_leftOver_14 ?_
  refine am_istore9 hC dX4_leftOver_15 rfl ?_
  exact loop 32 0 _ _ rfl
theorem m_countServed (l : Launch) (g : am_G) {h : am_H} {s : aS} {whole al k : Int} (w : kS h s) (q : WR s.2.2.2.2.2) (hw : 0 ≤ whole ∧ whole ≤ 1000000000) (ha : 0 < al ∧ al ≤ 32000000000) (hk : 0 ≤ k ∧ k < 32) :
    am_Met l g yX4_countServedBefore (am_W1 yX4_countServedBefore cX4_countServedBefore 12 (some .int)) 1 0 0 [.ref 0, vL whole, vL al, vI k] h (pI (wB whole al s.2.2.2.2.2 ((whole * s.2.2.2.2.2 k.toNat).tmod al) k 32) h) := by
  have h0 := w.1
  have h3 := w.2.2.2.1
  obtain ⟨rest, hr⟩ : ∃ rest, rest = (whole * s.2.2.2.2.2 k.toNat).tmod al := ⟨_, rfl⟩
  rw [← hr]
  have pk := wp_r hw (q k.toNat (by omega))
  have rr : ∀ v : Int, 0 ≤ v → 0 ≤ v.tmod al ∧ v.tmod al ≤ 32000000000 := fun v hv => by
    rw [Int.tmod_eq_emod_of_nonneg hv]
    have := Int.emod_lt_of_pos v ha.1
    exact ⟨Int.emod_nonneg _ (by omega), by omega⟩
  have hrr := rr _ pk.1
  rw [← hr] at hrr
  refine am_mk [some (.ref 0), some (vL whole), none, some (vL al), none, some (vI k), none, none, none, none, none, none] 6 rfl rfl (by decide +kernel) (fun x hl hg hC hT _ => ?_)
  have loop : ∀ (m i : Nat) (y10 y11 : Option Value), i + m = 32 → am_W x 42 0 0 h [some (.ref 0), some (vL whole), none, some (vL al), none, some (vI k), some (vL rest), none, some (vI (wB whole al s.2.2.2.2.2 rest k i)), some (vI (i : Int)), y10, y11] [] := by
    intro m
    induction m with
    | zero =>
      intro i y6 y7 hi
      rw [show i = 32 by omega]
      refine am_iload9 hC dX4_countServedBefore_42 ?_
      refine am_aload0 hC dX4_countServedBefore_44 ?_
      refine am_getf hC dX4_countServedBefore_45 fX4_32 h0 rfl ?_
      refine am_alenL hC dX4_countServedBefore_48 h3 ?_
      refine am_icmp_ge hC 97 dX4_countServedBefore_49 rfl (by omega) (by omega) (fun c49 => ?_) (fun c49 => ?_)
      · refine am_iload8 hC dX4_countServedBefore_97 ?_
        exact am_iret hC hT dX4_countServedBefore_99 (Nat.le_refl _) (Nat.le_refl _) ⟨rfl, rfl⟩
      · exact absurd c49 (by omega)
    | succ m ih =>
      intro i y6 y7 hi
      have p := wp_r hw (q i (by omega))
      have p2 := rr _ p.1
      obtain ⟨ot, hot⟩ : ∃ ot, ot = (whole * s.2.2.2.2.2 i).tmod al := ⟨_, rfl⟩
      rw [← hot] at p2
      have st : ∀ b : Int, (b = 1 ∧ (rest < ot ∨ (rest = ot ∧ (i : Int) < k))) ∨ (b = 0 ∧ ¬ (rest < ot ∨ (rest = ot ∧ (i : Int) < k))) → wB whole al s.2.2.2.2.2 rest k (i + 1) = wB whole al s.2.2.2.2.2 rest k i + b := by
        intro b hb
        show wB whole al s.2.2.2.2.2 rest k i + (if rest < (whole * s.2.2.2.2.2 i).tmod al ∨ (rest = (whole * s.2.2.2.2.2 i).tmod al ∧ (i : Int) < k) then 1 else 0) = _
        rw [← hot]
        rcases hb with ⟨rfl, c⟩ | ⟨rfl, c⟩
        · rw [if_pos c]
        · rw [if_neg c]
      refine am_iload9 hC dX4_countServedBefore_42 ?_
      refine am_aload0 hC dX4_countServedBefore_44 ?_
      refine am_getf hC dX4_countServedBefore_45 fX4_32 h0 rfl ?_
      refine am_alenL hC dX4_countServedBefore_48 h3 ?_
      refine am_icmp_ge hC 97 dX4_countServedBefore_49 rfl (by omega) (by omega) (fun c49 => ?_) (fun c49 => ?_)
      · exact absurd c49 (by omega)
      · refine am_lload1 hC dX4_countServedBefore_52 ?_
        refine am_aload0 hC dX4_countServedBefore_53 ?_
        refine am_getf hC dX4_countServedBefore_54 fX4_32 h0 rfl ?_
        refine am_iload9 hC dX4_countServedBefore_57 ?_
        refine am_lald hC dX4_countServedBefore_59 h3 (by omega) (by omega) ?_
        refine am_lmul hC dX4_countServedBefore_60 ?_
        refine am_lload3 hC dX4_countServedBefore_61 ?_
        rw [Int.toNat_natCast]
        refine am_lrem hC dX4_countServedBefore_62 (by omega) (by omega) (by omega) ?_
        rw [← hot]
        refine am_lstore10 hC dX4_countServedBefore_63 rfl ?_
        refine am_lload10 hC dX4_countServedBefore_65 ?_
        refine am_lload6 hC dX4_countServedBefore_67 ?_
        refine am_lif_gt hC 88 dX4_countServedBefore_69 dX4_countServedBefore_70 rfl (by omega) (by omega) (fun c70 => ?_) (fun c70 => ?_)
        · refine am_iinc8 hC dX4_countServedBefore_88 rfl ?_
          refine am_iinc9 hC dX4_countServedBefore_91 rfl ?_
          refine am_goto hC 42 dX4_countServedBefore_94 rfl ?_
          rw [show (i : Int) + 1 = ((i + 1 : Nat) : Int) by omega]
          first
            | rw [← st 1 (Or.inl ⟨rfl, by omega⟩)]; exact ih (i + 1) _ _ (by omega)
            | have e := st 0 (Or.inr ⟨rfl, by omega⟩); rw [Int.add_zero] at e; rw [← e]; exact ih (i + 1) _ _ (by omega)
        · refine am_lload10 hC dX4_countServedBefore_73 ?_
          refine am_lload6 hC dX4_countServedBefore_75 ?_
          refine am_lif_ne hC 91 dX4_countServedBefore_77 dX4_countServedBefore_78 rfl (by omega) (by omega) (fun c78 => ?_) (fun c78 => ?_)
          · refine am_iinc9 hC dX4_countServedBefore_91 rfl ?_
            refine am_goto hC 42 dX4_countServedBefore_94 rfl ?_
            rw [show (i : Int) + 1 = ((i + 1 : Nat) : Int) by omega]
            first
              | rw [← st 1 (Or.inl ⟨rfl, by omega⟩)]; exact ih (i + 1) _ _ (by omega)
              | have e := st 0 (Or.inr ⟨rfl, by omega⟩); rw [Int.add_zero] at e; rw [← e]; exact ih (i + 1) _ _ (by omega)
          · refine am_iload9 hC dX4_countServedBefore_81 ?_
            refine am_iload5 hC dX4_countServedBefore_83 ?_
            refine am_icmp_ge hC 91 dX4_countServedBefore_85 rfl (by omega) (by omega) (fun c85 => ?_) (fun c85 => ?_)
            · refine am_iinc9 hC dX4_countServedBefore_91 rfl ?_
              refine am_goto hC 42 dX4_countServedBefore_94 rfl ?_
              rw [show (i : Int) + 1 = ((i + 1 : Nat) : Int) by omega]
              first
                | rw [← st 1 (Or.inl ⟨rfl, by omega⟩)]; exact ih (i + 1) _ _ (by omega)
                | have e := st 0 (Or.inr ⟨rfl, by omega⟩); rw [Int.add_zero] at e; rw [← e]; exact ih (i + 1) _ _ (by omega)
            · refine am_iinc8 hC dX4_countServedBefore_88 rfl ?_
              refine am_iinc9 hC dX4_countServedBefore_91 rfl ?_
              refine am_goto hC 42 dX4_countServedBefore_94 rfl ?_
              rw [show (i : Int) + 1 = ((i + 1 : Nat) : Int) by omega]
              first
                | rw [← st 1 (Or.inl ⟨rfl, by omega⟩)]; exact ih (i + 1) _ _ (by omega)
                | have e := st 0 (Or.inr ⟨rfl, by omega⟩); rw [Int.add_zero] at e; rw [← e]; exact ih (i + 1) _ _ (by omega)
  refine am_lload3 hC dX4_countServedBefore_0 ?_
  refine am_lconst0 hC dX4_countServedBefore_1 ?_
  refine am_lif_le hC 21 dX4_countServedBefore_2 dX4_countServedBefore_3 rfl (by omega) (by omega) (fun c3 => ?_) (fun c3 => ?_)
  · exact absurd c3 (by omega)
  · refine am_iload5 hC dX4_countServedBefore_6 ?_
    refine am_if_lt hC 21 dX4_countServedBefore_8 rfl (by omega) (fun c8 => ?_) (fun c8 => ?_)
    · exact absurd c8 (by omega)
    · refine am_iload5 hC dX4_countServedBefore_11 ?_
      refine am_aload0 hC dX4_countServedBefore_13 ?_
      refine am_getf hC dX4_countServedBefore_14 fX4_32 h0 rfl ?_
      refine am_alenL hC dX4_countServedBefore_17 h3 ?_
      refine am_icmp_lt hC 23 dX4_countServedBefore_18 rfl (by omega) (by omega) (fun c18 => ?_) (fun c18 => ?_)
      · refine am_lload1 hC dX4_countServedBefore_23 ?_
        refine am_aload0 hC dX4_countServedBefore_24 ?_
        refine am_getf hC dX4_countServedBefore_25 fX4_32 h0 rfl ?_
        refine am_iload5 hC dX4_countServedBefore_28 ?_
        refine am_lald hC dX4_countServedBefore_30 h3 (by omega) (by omega) ?_
        refine am_lmul hC dX4_countServedBefore_31 ?_
        refine am_lload3 hC dX4_countServedBefore_32 ?_
        refine am_lrem hC dX4_countServedBefore_33 (by omega) (by omega) (by omega) ?_
        rw [← hr]
        refine am_lstore6 hC dX4_countServedBefore_34 rfl ?_
        refine am_iconst hC dX4_countServedBefore_36 ?_
        refine am_istore8 hC dX4_countServedBefore_37 rfl ?_
        refine am_iconst hC dX4_countServedBefore_39 ?_
        refine am_istore9 hC dX4_countServedBefore_40 rfl ?_
        exact loop 32 0 _ _ rfl
      · exact absurd c18 (by omega)
def aShare (s : aS) (whole : Int) (k : Nat) : Int :=
  (whole * s.2.2.2.2.2 k).tdiv (wS s.2.2.2.2.2 32) + (if wB whole (wS s.2.2.2.2.2 32) s.2.2.2.2.2 ((whole * s.2.2.2.2.2 k).tmod (wS s.2.2.2.2.2 32)) (k : Int) 32 < wL whole (wS s.2.2.2.2.2 32) s.2.2.2.2.2 32 then 1 else 0)
def okW (k : Int) : Prop := 0 ≤ k ∧ k < 32
def okH (v : Int) : Prop := 0 ≤ v ∧ v ≤ 1000000000
theorem m_share (l : Launch) (g : am_G) {h : am_H} {s : aS} {whole k : Int} (hst : l.stackTraces = false) (w : kS h s) (q : WR s.2.2.2.2.2) (hw : -9223372036854775808 ≤ whole ∧ whole ≤ 9223372036854775807) (hk : IR k) :
    am_MetX l g yX4_share (am_W1 yX4_share cX4_share 10 (some .long)) 7 1 6 [.ref 0, vL whole, vI k] h (qL fun v h1 => okW k ∧ okH whole ∧ wS s.2.2.2.2.2 32 ≠ 0 ∧ v = aShare s whole k.toNat ∧ h1 = h) (xK h s (fun E => (E = am_AIO ∧ ¬ okW k) ∨ (E = am_IAE ∧ okW k ∧ ¬ okH whole) ∨ (E = am_ARE ∧ okW k ∧ okH whole ∧ wS s.2.2.2.2.2 32 = 0))) := by
  have h0 := w.1
  have h3 := w.2.2.2.1
  have sr := wS_r q 32 (by omega)
  refine am_mkX [some (.ref 0), some (vL whole), none, some (vI k), none, none, none, none, none, none] 6 hst rfl rfl (by decide +kernel) (fun x hl hg hC hT hTX => ?_)
  refine am_iload3 hC dX4_share_0 ?_
  refine am_if_lt hC 13 dX4_share_1 rfl (by omega) (fun c1 => ?_) (fun c1 => ?_)
  · exact am_throw hC hTX tX4_139_173_143 dX4_share_13 dX4_share_16 dX4_share_17 dX4_share_19 dX4_share_22 (by decide) (by decide) (by omega) (by omega) (fun n1 hn => ⟨Or.inl ⟨rfl, by unfold okW; omega⟩, w.gr hn, gx_gr h hn _⟩)
  · refine am_iload3 hC dX4_share_4 ?_
    refine am_aload0 hC dX4_share_5 ?_
    refine am_getf hC dX4_share_6 fX4_32 h0 rfl ?_
    refine am_alenL hC dX4_share_9 h3 ?_
    refine am_icmp_lt hC 23 dX4_share_10 rfl (by omega) (by omega) (fun c10 => ?_) (fun c10 => ?_)
    · refine am_lload1 hC dX4_share_23 ?_
      refine am_lconst0 hC dX4_share_24 ?_
      refine am_lif_lt hC 37 dX4_share_25 dX4_share_26 rfl (by omega) (by omega) (fun c26 => ?_) (fun c26 => ?_)
      · exact am_throw hC hTX tX4_115_175_119 dX4_share_37 dX4_share_40 dX4_share_41 dX4_share_43 dX4_share_46 (by decide) (by decide) (by omega) (by omega) (fun n1 hn => ⟨Or.inr (Or.inl ⟨rfl, ⟨by omega, by omega⟩, by unfold okH; omega⟩), w.gr hn, gx_gr h hn _⟩)
      · refine am_lload1 hC dX4_share_29 ?_
        refine am_ldc2 hC (1000000000) dX4_share_30 cX4_171 rfl ?_
        refine am_lif_le hC 47 dX4_share_33 dX4_share_34 rfl (by omega) (by omega) (fun c34 => ?_) (fun c34 => ?_)
        · refine am_aload0 hC dX4_share_47 ?_
          refine am_V0_pL hC 4 dX4_share_48 kX4_177 (m_sumOfWeights _ _ w q) h0 rfl (Nat.le_of_ble_eq_true rfl) (by decide) (by omega) (by omega) ?_
          obtain ⟨al, hal⟩ : ∃ al, al = wS s.2.2.2.2.2 32 := ⟨_, rfl⟩
          rw [← hal] at sr ⊢
          refine am_lstore4 hC dX4_share_51 rfl ?_
          refine am_lload4 hC dX4_share_53 ?_
          refine am_lconst0 hC dX4_share_55 ?_
          refine am_lif_gt hC 70 dX4_share_56 dX4_share_57 rfl (by omega) (by omega) (fun c57 => ?_) (fun c57 => ?_)
          · refine am_lload1 hC dX4_share_70 ?_
            refine am_aload0 hC dX4_share_71 ?_
            refine am_getf hC dX4_share_72 fX4_32 h0 rfl ?_
            refine am_iload3 hC dX4_share_75 ?_
            refine am_lald hC dX4_share_76 h3 (by omega) (by omega) ?_
            refine am_lmul hC dX4_share_77 ?_
            refine am_lstore6 hC dX4_share_78 rfl ?_
            refine am_aload0 hC dX4_share_80 ?_
            refine am_lload1 hC dX4_share_81 ?_
            refine am_lload4 hC dX4_share_82 ?_
            have hwo : 0 ≤ whole ∧ whole ≤ 1000000000 := ⟨by omega, by omega⟩
            have pk := wp_r hwo (q k.toNat (by omega))
            have l1 := (wL_r (al := al) q hwo (by omega) 32 (by omega)).1
            have l0 : 0 ≤ wL whole al s.2.2.2.2.2 32 := by rw [hal]; exact wL_0 q hwo (by omega)
            have b0 := wB_r s.2.2.2.2.2 whole al ((whole * s.2.2.2.2.2 k.toNat).tmod al) k 32
            refine am_V2_pL hC 4 dX4_share_84 kX4_183 (m_leftOver _ _ w q hwo (by omega)) h0 rfl (Nat.le_of_ble_eq_true rfl) (by decide) (by omega) (by omega) ?_
            refine am_lstore8 hC dX4_share_87 rfl ?_
            refine am_lload6 hC dX4_share_89 ?_
            refine am_lload4 hC dX4_share_91 ?_
            refine am_ldiv hC dX4_share_93 (by omega) (by omega) (by omega) ?_
            refine am_aload0 hC dX4_share_94 ?_
            refine am_lload1 hC dX4_share_95 ?_
            refine am_lload4 hC dX4_share_96 ?_
            refine am_iload3 hC dX4_share_98 ?_
            refine am_V3_pI hC 4 dX4_share_99 kX4_187 (m_countServed _ _ w q hwo (by omega) (by omega)) h0 rfl (Nat.le_of_ble_eq_true rfl) (by decide) (by omega) (by omega) ?_
            refine am_i2l hC dX4_share_102 (by omega) ?_
            refine am_lload8 hC dX4_share_103 ?_
            refine am_lif_ge hC 113 dX4_share_105 dX4_share_106 rfl (by omega) (by omega) (fun c106 => ?_) (fun c106 => ?_)
            · refine am_iconst hC dX4_share_113 ?_
              refine am_i2l hC dX4_share_114 (by omega) ?_
              refine am_ladd hC dX4_share_115 ?_
              have kt : ((k.toNat : Nat) : Int) = k := by omega
              first
                | exact am_lret hC hT dX4_share_116 (by omega) (by omega) ⟨_, rfl, ⟨by omega, by omega⟩, hwo, by omega, by rw [aShare, kt, ← hal, if_pos (by omega)], rfl⟩
                | exact am_lret hC hT dX4_share_116 (by omega) (by omega) ⟨_, rfl, ⟨by omega, by omega⟩, hwo, by omega, by rw [aShare, kt, ← hal, if_neg (by omega)], rfl⟩
            · refine am_iconst hC dX4_share_109 ?_
              refine am_goto hC 114 dX4_share_110 rfl ?_
              refine am_i2l hC dX4_share_114 (by omega) ?_
              refine am_ladd hC dX4_share_115 ?_
              have kt : ((k.toNat : Nat) : Int) = k := by omega
              first
                | exact am_lret hC hT dX4_share_116 (by omega) (by omega) ⟨_, rfl, ⟨by omega, by omega⟩, hwo, by omega, by rw [aShare, kt, ← hal, if_pos (by omega)], rfl⟩
                | exact am_lret hC hT dX4_share_116 (by omega) (by omega) ⟨_, rfl, ⟨by omega, by omega⟩, hwo, by omega, by rw [aShare, kt, ← hal, if_neg (by omega)], rfl⟩
          · exact am_throw hC hTX tX4_72_181_76 dX4_share_60 dX4_share_63 dX4_share_64 dX4_share_66 dX4_share_69 (by decide) (by decide) (by omega) (by omega) (fun n1 hn => ⟨Or.inr (Or.inr ⟨rfl, ⟨by omega, by omega⟩, ⟨by omega, by omega⟩, by omega⟩), w.gr hn, gx_gr h hn _⟩)
        · exact am_throw hC hTX tX4_115_175_119 dX4_share_37 dX4_share_40 dX4_share_41 dX4_share_43 dX4_share_46 (by decide) (by decide) (by omega) (by omega) (fun n1 hn => ⟨Or.inr (Or.inl ⟨rfl, ⟨by omega, by omega⟩, by unfold okH; omega⟩), w.gr hn, gx_gr h hn _⟩)
    · exact am_throw hC hTX tX4_139_173_143 dX4_share_13 dX4_share_16 dX4_share_17 dX4_share_19 dX4_share_22 (by decide) (by decide) (by omega) (by omega) (fun n1 hn => ⟨Or.inl ⟨rfl, by unfold okW; omega⟩, w.gr hn, gx_gr h hn _⟩)

/-! the Model's state; pieces, need, take -/
def mV (h : am_H) (V : Nat → aV) : Prop := (∃ f : Nat → Int, h.2 45 = some (eI 150 f) ∧ ∀ i, i < 150 → f i = (V i).1) ∧ (∃ f : Nat → Int, h.2 46 = some (eI 8100 f) ∧ ∀ i, i < 150 → ∀ k, k < 54 → f (54 * i + k) = (pg (V i).2.1 k : Int)) ∧ (∃ f : Nat → Int, h.2 47 = some (eI 8100 f) ∧ ∀ i, i < 150 → ∀ k, k < 54 → f (54 * i + k) = (pg (V i).2.2 k : Int))
def eS (h : am_H) (s : aS) (th : Int) (wd : Nat) (R : Nat → Int) : Prop := h.2 43 = some (rO th wd s.1 s.2.2.1 s.2.2.2.2.1) ∧ h.2 44 = some (eI 1920 R) ∧ (1 ≤ wd ∧ wd ≤ 160) ∧ mV h s.2.1 ∧ h.2 48 = some (eI 80 s.2.2.2.1) ∧ h.2 49 = some (eL 32 s.2.2.2.2.2)
theorem eS.x {h : am_H} {s : aS} {th : Int} {wd : Nat} {R : Nat → Int} (w : eS h s th wd R) : rX h wd R := ⟨⟨_, _, _, _, w.1⟩, w.2.1, w.2.2.1.1, w.2.2.1.2⟩
theorem mV.on {h h1 : am_H} {V : Nat → aV} (w : mV h V) (e1 : h1.2 45 = h.2 45) (e2 : h1.2 46 = h.2 46) (e3 : h1.2 47 = h.2 47) : mV h1 V := by
  obtain ⟨⟨f, a1, a2⟩, ⟨f', b1, b2⟩, ⟨f'', c1, c2⟩⟩ := w
  exact ⟨⟨f, e1.trans a1, a2⟩, ⟨f', e2.trans b1, b2⟩, ⟨f'', e3.trans c1, c2⟩⟩
theorem eS.r {h : am_H} {s : aS} {th : Int} {wd : Nat} {R R' : Nat → Int} (w : eS h s th wd R) : eS (am_up h 44 (eI 1920 R')) s th wd R' :=
  ⟨(am_up_ne h _ (by decide)).trans w.1, am_up_at _ _ _, w.2.2.1, w.2.2.2.1.on (am_up_ne h _ (by decide)) (am_up_ne h _ (by decide)) (am_up_ne h _ (by decide)), (am_up_ne h _ (by decide)).trans w.2.2.2.2.1, (am_up_ne h _ (by decide)).trans w.2.2.2.2.2⟩
theorem eS.o {h : am_H} {s : aS} {th th' : Int} {wd wd' : Nat} {R : Nat → Int} (w : eS h s th wd R) (q : 1 ≤ wd' ∧ wd' ≤ 160) : eS (am_up h 43 (rO th' wd' s.1 s.2.2.1 s.2.2.2.2.1)) s th' wd' R :=
  ⟨am_up_at _ _ _, (am_up_ne h _ (by decide)).trans w.2.1, q, w.2.2.2.1.on (am_up_ne h _ (by decide)) (am_up_ne h _ (by decide)) (am_up_ne h _ (by decide)), (am_up_ne h _ (by decide)).trans w.2.2.2.2.1, (am_up_ne h _ (by decide)).trans w.2.2.2.2.2⟩
theorem hp_z {a : Nat} : ∀ (m n : Nat), hp a (n + m) = 0 → (∀ j, n ≤ j → j < n + m → pg a j = 0) → hp a n = 0 := by
  intro m
  induction m with
  | zero => intro n h _; exact h
  | succ m ih =>
    intro n h q
    have h1 := ih (n + 1) (by rw [show n + 1 + m = n + (m + 1) by omega]; exact h) (fun j a1 a2 => q j (by omega) (by omega))
    have h2 := hp_pg a n
    have h3 := q n (Nat.le_refl _) (by omega)
    omega
theorem hp_lt {a n : Nat} (h : hp a n = 0) : a < 32768 ^ n := by
  rcases Nat.lt_or_ge a (32768 ^ n) with c | c
  · exact c
  · have := Nat.div_pos c (Nat.pow_pos (by decide)); unfold hp at h; omega
theorem p54 {a : Nat} (h : bl a ≤ 800) : a < 32768 ^ 54 := by
  rw [B15]
  exact Nat.lt_of_lt_of_le (bl_le.mp h) (Nat.pow_le_pow_right (by decide) (by decide))
theorem m_Mpieces (l : Launch) (g : am_G) {h : am_H} {s : aS} {th : Int} {wd i : Nat} {R : Nat → Int} (w : eS h s th wd R) (hi : i < 150) (ok : vOK (s.2.1 i)) :
    am_Met l g yX5_pieces (am_W1 yX5_pieces cX5_pieces 4 (some .int)) 1 0 0 [.ref 43, vI (i : Int)] h (qI fun v h1 => h1 = h ∧ ∃ n : Nat, v = (n : Int) ∧ 1 ≤ n ∧ n ≤ 54 ∧ (s.2.1 i).2.1 < 32768 ^ n ∧ (s.2.1 i).2.2 < 32768 ^ n) := by
  have h0 := w.1
  obtain ⟨-, ⟨f, b1, b2⟩, ⟨f', c1, c2⟩⟩ := w.2.2.2.1
  obtain ⟨u, hu⟩ : ∃ u, u = s.2.1 i := ⟨_, rfl⟩
  have b3 := b2 i hi
  have c3 := c2 i hi
  rw [← hu] at b3 c3 ok ⊢
  have q1 := p54 ok.2.2.2.1
  have q2 := p54 ok.2.2.2.2
  refine am_mk [some (.ref 43), some (vI (i : Int)), none, none] 2 rfl rfl (by decide +kernel) (fun z hl hg hC hT _ => ?_)
  have loop : ∀ (m k n : Nat), k + m = 54 → 1 ≤ n → n ≤ 54 → (n = 1 ∨ n ≤ k) → (∀ j, n ≤ j → j < k → pg u.2.1 j = 0 ∧ pg u.2.2 j = 0) → am_W z 4 0 0 h [some (.ref 43), some (vI (i : Int)), some (vI (n : Int)), some (vI (k : Int))] [] := by
    intro m
    induction m with
    | zero =>
      intro k n hk n1 n2 n3 hz
      refine am_iload3 hC dX5_pieces_4 ?_
      refine am_bipush hC dX5_pieces_5 rfl ?_
      refine am_icmp_ge hC 52 dX5_pieces_7 rfl (by omega) (by omega) (fun c7 => ?_) (fun c7 => ?_)
      · refine am_iload2 hC dX5_pieces_52 ?_
        exact am_iret hC hT dX5_pieces_53 (by omega) (by omega) ⟨_, rfl, rfl, n, rfl, n1, n2, hp_lt (hp_z (54 - n) n (by rw [show n + (54 - n) = 54 by omega]; exact hp_out q1 (Nat.le_refl _)) (fun j a1 a2 => (hz j a1 (by omega)).1)), hp_lt (hp_z (54 - n) n (by rw [show n + (54 - n) = 54 by omega]; exact hp_out q2 (Nat.le_refl _)) (fun j a1 a2 => (hz j a1 (by omega)).2))⟩
      · exact absurd c7 (by omega)
    | succ m ih =>
      intro k n hk n1 n2 n3 hz
      have v1 := b3 k (by omega)
      have v2 := c3 k (by omega)
      have l1 := pg_lt u.2.1 k
      have l2 := pg_lt u.2.2 k
      refine am_iload3 hC dX5_pieces_4 ?_
      refine am_bipush hC dX5_pieces_5 rfl ?_
      refine am_icmp_ge hC 52 dX5_pieces_7 rfl (by omega) (by omega) (fun c7 => ?_) (fun c7 => ?_)
      · exact absurd c7 (by omega)
      · refine am_aload0 hC dX5_pieces_10 ?_
        refine am_getf hC dX5_pieces_11 fX5_20 h0 rfl ?_
        refine am_bipush hC dX5_pieces_14 rfl ?_
        refine am_iload1 hC dX5_pieces_16 ?_
        refine am_imul hC dX5_pieces_17 ?_
        refine am_iload3 hC dX5_pieces_18 ?_
        refine am_iadd hC dX5_pieces_19 ?_
        refine am_iald hC dX5_pieces_20 b1 (by omega) (by omega) ?_
        rw [show (54 * (i : Int) + (k : Int)) = ((54 * i + k : Nat) : Int) by omega, Int.toNat_natCast, v1]
        refine am_if_ne hC 38 dX5_pieces_21 rfl (by omega) (fun c21 => ?_) (fun c21 => ?_)
        · refine am_iload3 hC dX5_pieces_38 ?_
          refine am_iconst hC dX5_pieces_39 ?_
          refine am_iadd hC dX5_pieces_40 ?_
          refine am_goto hC 45 dX5_pieces_41 rfl ?_
          refine am_istore2 hC dX5_pieces_45 rfl ?_
          refine am_iinc3 hC dX5_pieces_46 rfl ?_
          refine am_goto hC 4 dX5_pieces_49 rfl ?_
          rw [show (k : Int) + 1 = ((k + 1 : Nat) : Int) by omega]
          exact ih (k + 1) (k + 1) (by omega) (by omega) (by omega) (by omega) (fun j a1 a2 => by omega)
        refine am_aload0 hC dX5_pieces_24 ?_
        refine am_getf hC dX5_pieces_25 fX5_23 h0 rfl ?_
        refine am_bipush hC dX5_pieces_28 rfl ?_
        refine am_iload1 hC dX5_pieces_30 ?_
        refine am_imul hC dX5_pieces_31 ?_
        refine am_iload3 hC dX5_pieces_32 ?_
        refine am_iadd hC dX5_pieces_33 ?_
        refine am_iald hC dX5_pieces_34 c1 (by omega) (by omega) ?_
        rw [show (54 * (i : Int) + (k : Int)) = ((54 * i + k : Nat) : Int) by omega, Int.toNat_natCast, v2]
        refine am_if_eq hC 44 dX5_pieces_35 rfl (by omega) (fun c35 => ?_) (fun c35 => ?_)
        · refine am_iload2 hC dX5_pieces_44 ?_
          refine am_istore2 hC dX5_pieces_45 rfl ?_
          refine am_iinc3 hC dX5_pieces_46 rfl ?_
          refine am_goto hC 4 dX5_pieces_49 rfl ?_
          rw [show (k : Int) + 1 = ((k + 1 : Nat) : Int) by omega]
          exact ih (k + 1) n (by omega) n1 n2 (by omega) (fun j a1 a2 => by by_cases e : j = k; (· subst e; exact ⟨by omega, by omega⟩); (· exact hz j a1 (by omega)))
        refine am_iload3 hC dX5_pieces_38 ?_
        refine am_iconst hC dX5_pieces_39 ?_
        refine am_iadd hC dX5_pieces_40 ?_
        refine am_goto hC 45 dX5_pieces_41 rfl ?_
        refine am_istore2 hC dX5_pieces_45 rfl ?_
        refine am_iinc3 hC dX5_pieces_46 rfl ?_
        refine am_goto hC 4 dX5_pieces_49 rfl ?_
        rw [show (k : Int) + 1 = ((k + 1 : Nat) : Int) by omega]
        exact ih (k + 1) (k + 1) (by omega) (by omega) (by omega) (by omega) (fun j a1 a2 => by omega)
  refine am_iconst hC dX5_pieces_0 ?_
  refine am_istore2 hC dX5_pieces_1 rfl ?_
  refine am_iconst hC dX5_pieces_2 ?_
  refine am_istore3 hC dX5_pieces_3 rfl ?_
  exact loop 54 0 1 rfl (by omega) (by omega) (Or.inl rfl) (fun j a1 a2 => by omega)
theorem rO_set1 (h : am_H) (th wd us ro to v : Int) : am_up h 43 (eO 5 ([vI th, vI wd, .ref 44, vI us, .ref 45, .ref 46, .ref 47, vI ro, .ref 48, vI to, .ref 49].set 1 (vI v))) = am_up h 43 (rO th v us ro to) := rfl
theorem rO_set0 (h : am_H) (th wd us ro to v : Int) : am_up h 43 (eO 5 ([vI th, vI wd, .ref 44, vI us, .ref 45, .ref 46, .ref 47, vI ro, .ref 48, vI to, .ref 49].set 0 (vI v))) = am_up h 43 (rO v wd us ro to) := rfl
/-- wide enough for both parts of both values -/
def nd (s : aS) (i j more wd : Nat) : Prop := ∃ n1 n2 : Nat, wd = min (2 * n1 + 2 * n2 + more) 160 ∧ (1 ≤ n1 ∧ n1 ≤ 54) ∧ (1 ≤ n2 ∧ n2 ≤ 54) ∧ (s.2.1 i).2.1 < 32768 ^ n1 ∧ (s.2.1 i).2.2 < 32768 ^ n1 ∧ (s.2.1 j).2.1 < 32768 ^ n2 ∧ (s.2.1 j).2.2 < 32768 ^ n2
theorem m_Mneed (l : Launch) (g : am_G) {h : am_H} {s : aS} {th : Int} {wd i j more : Nat} {R : Nat → Int} (w : eS h s th wd R) (hi : i < 150) (hj : j < 150) (hm : more ≤ 1000) (ok : vOK (s.2.1 i)) (ok2 : vOK (s.2.1 j)) :
    am_Met l g yX5_need (am_W1 yX5_need cX5_need 5 none) 2 0 0 [.ref 43, vI (i : Int), vI (j : Int), vI (more : Int)] h (qN fun h1 => ∃ wd', nd s i j more wd' ∧ h1 = am_up h 43 (rO th wd' s.1 s.2.2.1 s.2.2.2.2.1)) := by
  have h0 := w.1
  refine am_mk [some (.ref 43), some (vI (i : Int)), some (vI (j : Int)), some (vI (more : Int)), none] 1 rfl rfl (by decide +kernel) (fun z hl hg hC hT _ => ?_)
  refine am_iconst hC dX5_need_0 ?_
  refine am_aload0 hC dX5_need_1 ?_
  refine am_iload1 hC dX5_need_2 ?_
  refine am_V1_qI hC 5 dX5_need_3 kX5_74 (m_Mpieces _ _ w hi ok) h0 rfl (Nat.le_of_ble_eq_true rfl) (by decide) (by omega) (by omega) (fun v h1 q => ?_)
  obtain ⟨e, n1, rfl, a1, a2, a3, a4⟩ := q
  rw [e]
  clear e
  refine am_imul hC dX5_need_6 ?_
  refine am_iconst hC dX5_need_7 ?_
  refine am_aload0 hC dX5_need_8 ?_
  refine am_iload2 hC dX5_need_9 ?_
  refine am_V1_qI hC 5 dX5_need_10 kX5_74 (m_Mpieces _ _ w hj ok2) h0 rfl (Nat.le_of_ble_eq_true rfl) (by decide) (by omega) (by omega) (fun v h1 q => ?_)
  obtain ⟨e, n2, rfl, b1, b2, b3, b4⟩ := q
  rw [e]
  clear e
  refine am_imul hC dX5_need_13 ?_
  refine am_iadd hC dX5_need_14 ?_
  refine am_iload3 hC dX5_need_15 ?_
  refine am_iadd hC dX5_need_16 ?_
  refine am_istore4 hC dX5_need_17 rfl ?_
  refine am_aload0 hC dX5_need_19 ?_
  refine am_iload4 hC dX5_need_20 ?_
  refine am_sipush hC dX5_need_22 rfl ?_
  refine am_icmp_ge hC 33 dX5_need_25 rfl (by omega) (by omega) (fun c25 => ?_) (fun c25 => ?_)
  · refine am_sipush hC dX5_need_33 rfl ?_
    refine am_putf hC dX5_need_36 pX5_9 (fun q => by cases q) h0 (am_fitI _) (Nat.le_of_ble_eq_true rfl) ?_
    rw [rO_set1]
    first
      | exact am_vret hC hT dX5_need_39 (by omega) (by omega) ⟨rfl, 2 * n1 + 2 * n2 + more, ⟨n1, n2, by omega, ⟨a1, a2⟩, ⟨b1, b2⟩, a3, a4, b3, b4⟩, by rw [show ((2 * n1 + 2 * n2 + more : Nat) : Int) = 2 * (n1 : Int) + 2 * (n2 : Int) + (more : Int) by omega]⟩
      | exact am_vret hC hT dX5_need_39 (by omega) (by omega) ⟨rfl, 160, ⟨n1, n2, by omega, ⟨a1, a2⟩, ⟨b1, b2⟩, a3, a4, b3, b4⟩, rfl⟩
  · refine am_iload4 hC dX5_need_28 ?_
    refine am_goto hC 36 dX5_need_30 rfl ?_
    refine am_putf hC dX5_need_36 pX5_9 (fun q => by cases q) h0 (am_fitI _) (Nat.le_of_ble_eq_true rfl) ?_
    rw [rO_set1]
    first
      | exact am_vret hC hT dX5_need_39 (by omega) (by omega) ⟨rfl, 2 * n1 + 2 * n2 + more, ⟨n1, n2, by omega, ⟨a1, a2⟩, ⟨b1, b2⟩, a3, a4, b3, b4⟩, by rw [show ((2 * n1 + 2 * n2 + more : Nat) : Int) = 2 * (n1 : Int) + 2 * (n2 : Int) + (more : Int) by omega]⟩
      | exact am_vret hC hT dX5_need_39 (by omega) (by omega) ⟨rfl, 160, ⟨n1, n2, by omega, ⟨a1, a2⟩, ⟨b1, b2⟩, a3, a4, b3, b4⟩, rfl⟩
theorem m_Mtake (l : Launch) (g : am_G) {h : am_H} {s : aS} {th : Int} {wd i x y : Nat} {R : Nat → Int} (w : eS h s th wd R) (hi : i < 150) (ok : vOK (s.2.1 i)) (hx : x < 12) (hy : y < 12) (xy : x ≠ y) :
    am_Met l g yX5_take (am_W1 yX5_take cX5_take 5 none) 2 0 0 [.ref 43, vI (i : Int), vI (x : Int), vI (y : Int)] h (qN fun h1 => ∃ R', h1 = am_up h 44 (eI 1920 R') ∧ rg R' x (s.2.1 i).2.1 ∧ rg R' y (s.2.1 i).2.2 ∧ rF R R' [x, y]) := by
  have h0 := w.1
  obtain ⟨u, hu⟩ : ∃ u, u = s.2.1 i := ⟨_, rfl⟩
  have bb : ∀ R' : Nat → Int, ∃ f : Nat → Int, (am_up h 44 (eI 1920 R')).2 46 = some (eI 8100 f) ∧ ∀ k, k < 54 → f (54 * i + k) = (pg u.2.1 k : Int) := fun R' => by
    obtain ⟨-, ⟨f, b1, b2⟩, -⟩ := (w.r (R' := R')).2.2.2.1
    exact ⟨f, b1, fun k hk => by rw [hu]; exact b2 i hi k hk⟩
  have cc : ∀ R' : Nat → Int, ∃ f : Nat → Int, (am_up h 44 (eI 1920 R')).2 47 = some (eI 8100 f) ∧ ∀ k, k < 54 → f (54 * i + k) = (pg u.2.2 k : Int) := fun R' => by
    obtain ⟨-, -, ⟨f, b1, b2⟩⟩ := (w.r (R' := R')).2.2.2.1
    exact ⟨f, b1, fun k hk => by rw [hu]; exact b2 i hi k hk⟩
  have G0 : ∀ R' : Nat → Int, (am_up h 44 (eI 1920 R')).2 43 = _ := fun R' => (w.r (R' := R')).1
  rw [← hu] at ok ⊢
  have q1 := p54 ok.2.2.2.1
  have q2 := p54 ok.2.2.2.2
  refine am_mk [some (.ref 43), some (vI (i : Int)), some (vI (x : Int)), some (vI (y : Int)), none] 1 rfl rfl (by decide +kernel) (fun z hl hg hC hT _ => ?_)
  have loop : ∀ (m k : Nat) (R' : Nat → Int), k + m = 54 → rF R R' [x, y] → (∀ j, j < k → R' (160 * x + j) = (pg u.2.1 j : Int) ∧ R' (160 * y + j) = (pg u.2.2 j : Int)) → (∀ j, k ≤ j → j < 160 → R' (160 * x + j) = 0 ∧ R' (160 * y + j) = 0) → am_W z 15 0 0 (am_up h 44 (eI 1920 R')) [some (.ref 43), some (vI (i : Int)), some (vI (x : Int)), some (vI (y : Int)), some (vI (k : Int))] [] := by
    intro m
    induction m with
    | zero =>
      intro k R' hk o f1 f2
      refine am_iload4 hC dX5_take_15 ?_
      refine am_bipush hC dX5_take_17 rfl ?_
      refine am_icmp_ge hC 78 dX5_take_19 rfl (by omega) (by omega) (fun c19 => ?_) (fun c19 => ?_)
      · exact am_vret hC hT dX5_take_78 (by omega) (by omega) ⟨rfl, R', rfl, fun j hj => by by_cases e : j < k; (· exact (f1 j e).1); (· rw [(f2 j (by omega) hj).1, pg_out q1 (by omega)]; rfl), fun j hj => by by_cases e : j < k; (· exact (f1 j e).2); (· rw [(f2 j (by omega) hj).2, pg_out q2 (by omega)]; rfl), o⟩
      · exact absurd c19 (by omega)
    | succ m ih =>
      intro k R' hk o f1 f2
      have g0 := G0 R'
      have g1 := am_up_at h 44 (eI 1920 R')
      obtain ⟨fb, b1, b2⟩ := bb R'
      have vb := b2 k (by omega)
      refine am_iload4 hC dX5_take_15 ?_
      refine am_bipush hC dX5_take_17 rfl ?_
      refine am_icmp_ge hC 78 dX5_take_19 rfl (by omega) (by omega) (fun c19 => ?_) (fun c19 => ?_)
      · exact absurd c19 (by omega)
      · refine am_aload0 hC dX5_take_22 ?_
        refine am_getf hC dX5_take_23 fX5_13 g0 rfl ?_
        refine am_sipush hC dX5_take_26 rfl ?_
        refine am_iload2 hC dX5_take_29 ?_
        refine am_imul hC dX5_take_30 ?_
        refine am_iload4 hC dX5_take_31 ?_
        refine am_iadd hC dX5_take_33 ?_
        refine am_aload0 hC dX5_take_34 ?_
        refine am_getf hC dX5_take_35 fX5_20 g0 rfl ?_
        refine am_bipush hC dX5_take_38 rfl ?_
        refine am_iload1 hC dX5_take_40 ?_
        refine am_imul hC dX5_take_41 ?_
        refine am_iload4 hC dX5_take_42 ?_
        refine am_iadd hC dX5_take_44 ?_
        refine am_iald hC dX5_take_45 b1 (by omega) (by omega) ?_
        rw [show (54 * (i : Int) + (k : Int)) = ((54 * i + k : Nat) : Int) by omega, Int.toNat_natCast, vb, show (160 * (x : Int) + (k : Int)) = ((160 * x + k : Nat) : Int) by omega]
        refine am_iast hC dX5_take_46 g1 (by omega) (by omega) ?_
        rw [Int.toNat_natCast, am_up_up]
        obtain ⟨R2, hR2⟩ : ∃ R2, R2 = am_fu R' (160 * x + k) (pg u.2.1 k : Int) := ⟨_, rfl⟩
        rw [← hR2]
        have g02 := G0 R2
        have g12 := am_up_at h 44 (eI 1920 R2)
        obtain ⟨fc, c1, c2⟩ := cc R2
        have vc := c2 k (by omega)
        have o2 : rF R R2 [x, y] := o.tr (by rw [hR2]; exact rK.f ((rK.rf R' x).fu (by omega)) (by simp))
        refine am_aload0 hC dX5_take_47 ?_
        refine am_getf hC dX5_take_48 fX5_13 g02 rfl ?_
        refine am_sipush hC dX5_take_51 rfl ?_
        refine am_iload3 hC dX5_take_54 ?_
        refine am_imul hC dX5_take_55 ?_
        refine am_iload4 hC dX5_take_56 ?_
        refine am_iadd hC dX5_take_58 ?_
        refine am_aload0 hC dX5_take_59 ?_
        refine am_getf hC dX5_take_60 fX5_23 g02 rfl ?_
        refine am_bipush hC dX5_take_63 rfl ?_
        refine am_iload1 hC dX5_take_65 ?_
        refine am_imul hC dX5_take_66 ?_
        refine am_iload4 hC dX5_take_67 ?_
        refine am_iadd hC dX5_take_69 ?_
        refine am_iald hC dX5_take_70 c1 (by omega) (by omega) ?_
        rw [show (54 * (i : Int) + (k : Int)) = ((54 * i + k : Nat) : Int) by omega, Int.toNat_natCast, vc, show (160 * (y : Int) + (k : Int)) = ((160 * y + k : Nat) : Int) by omega]
        refine am_iast hC dX5_take_71 g12 (by omega) (by omega) ?_
        rw [Int.toNat_natCast, am_up_up]
        refine am_iinc4 hC dX5_take_72 rfl ?_
        refine am_goto hC 15 dX5_take_75 rfl ?_
        rw [show (k : Int) + 1 = ((k + 1 : Nat) : Int) by omega]
        refine ih (k + 1) _ (by omega) (o2.tr (rK.f ((rK.rf R2 y).fu (by omega)) (by simp))) (fun j hj => ?_) (fun j hj hj2 => ?_)
        · by_cases e : j = k
          · subst e; exact ⟨by rw [am_fu_lt (by omega), hR2, am_fu_at], by rw [am_fu_at]⟩
          · rw [am_fu_lt (by omega), am_fu_lt (by omega), hR2, am_fu_lt (by omega), am_fu_lt (by omega)]; exact f1 j (by omega)
        · rw [am_fu_lt (by omega), am_fu_lt (by omega), hR2, am_fu_lt (by omega), am_fu_lt (by omega)]; exact f2 j (by omega) hj2
  refine am_aload0 hC dX5_take_0 ?_
  refine am_iload2 hC dX5_take_1 ?_
  refine am_lconst0 hC dX5_take_2 ?_
  refine am_V2_qN hC 5 dX5_take_3 kX5_36 (m_Mset (v := 0) _ _ w.x hx) h0 rfl (Nat.le_of_ble_eq_true rfl) (by decide) (by omega) (by omega) (fun h1' rr => ?_)
  obtain ⟨R1, rfl, r1, e1⟩ := rr
  have g01 := G0 R1
  refine am_aload0 hC dX5_take_6 ?_
  refine am_iload3 hC dX5_take_7 ?_
  refine am_lconst0 hC dX5_take_8 ?_
  refine am_V2_qN hC 5 dX5_take_9 kX5_36 (m_Mset (v := 0) _ _ (w.x.up (R' := R1)) hy) g01 rfl (Nat.le_of_ble_eq_true rfl) (by decide) (by omega) (by omega) (fun h1' rr => ?_)
  obtain ⟨R2, e2, r2, f2⟩ := rr
  rw [am_up_up] at e2
  subst e2
  have r12 := r1.kept f2 xy
  refine am_iconst hC dX5_take_12 ?_
  refine am_istore4 hC dX5_take_13 rfl ?_
  exact loop 54 0 R2 rfl ((e1.f (by simp)).tr (f2.f (by simp))) (fun j hj => by omega) (fun j _ hj => ⟨by rw [r12 j hj]; show ((pg 0 j : Nat) : Int) = 0; rw [pg_0]; rfl, by rw [r2 j hj]; show ((pg 0 j : Nat) : Int) = 0; rw [pg_0]; rfl⟩)

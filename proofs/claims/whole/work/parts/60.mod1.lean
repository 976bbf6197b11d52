/-! the Model: registers of fifteen bits a piece -/
def hp (a i : Nat) : Nat := a / 32768 ^ i
def pg (a i : Nat) : Nat := hp a i % 32768
theorem hp_0 (a : Nat) : hp a 0 = a := by unfold hp; rw [Nat.pow_zero, Nat.div_one]
theorem hp_s (a i : Nat) : hp a (i + 1) = hp a i / 32768 := by unfold hp; rw [Nat.div_div_eq_div_mul, ← Nat.pow_succ]
theorem hp_pg (a i : Nat) : hp a i = pg a i + 32768 * hp a (i + 1) := by rw [hp_s]; unfold pg; omega
theorem pg_lt (a i : Nat) : pg a i < 32768 := Nat.mod_lt _ (by decide)
theorem hp_out {a n i : Nat} (h : a < 32768 ^ n) (hi : n ≤ i) : hp a i = 0 := Nat.div_eq_of_lt (Nat.lt_of_lt_of_le h (Nat.pow_le_pow_right (by decide) hi))
theorem pg_out {a n i : Nat} (h : a < 32768 ^ n) (hi : n ≤ i) : pg a i = 0 := by unfold pg; rw [hp_out h hi]
theorem pg_0 (i : Nat) : pg 0 i = 0 := by unfold pg hp; rw [Nat.zero_div]
def rO (th wd us ro to : Int) : am_E := eO 5 [vI th, vI wd, .ref 44, vI us, .ref 45, .ref 46, .ref 47, vI ro, .ref 48, vI to, .ref 49]
def rX (h : am_H) (wd : Nat) (R : Nat → Int) : Prop := (∃ th us ro to : Int, h.2 43 = some (rO th wd us ro to)) ∧ h.2 44 = some (eI 1920 R) ∧ 1 ≤ wd ∧ wd ≤ 160
def rg (R : Nat → Int) (x a : Nat) : Prop := ∀ k, k < 160 → R (160 * x + k) = (pg a k : Int)
def rK (R R' : Nat → Int) (x : Nat) : Prop := ∀ j, (j < 160 * x ∨ 160 * x + 160 ≤ j) → R' j = R j
theorem rK.rf (R : Nat → Int) (x : Nat) : rK R R x := fun _ _ => rfl
theorem rK.tr {R R1 R2 : Nat → Int} {x : Nat} (a : rK R R1 x) (b : rK R1 R2 x) : rK R R2 x := fun j hj => (b j hj).trans (a j hj)
theorem rg.kept {R R' : Nat → Int} {x y b : Nat} (w : rg R y b) (o : rK R R' x) (q : y ≠ x) : rg R' y b := fun k hk => by rw [o _ (by omega)]; exact w k hk
theorem rX.up {h : am_H} {wd : Nat} {R R' : Nat → Int} (w : rX h wd R) : rX (am_up h 44 (eI 1920 R')) wd R' := ⟨by obtain ⟨a, b, c, d, e⟩ := w.1; exact ⟨a, b, c, d, by rw [am_up_ne _ _ (by decide)]; exact e⟩, am_up_at _ _ _, w.2.2⟩
theorem rK.fu {R R' : Nat → Int} {x k : Nat} {v : Int} (a : rK R R' x) (hk : k < 160) : rK R (am_fu R' (160 * x + k) v) x := fun j hj => by rw [am_fu_lt (by omega)]; exact a j hj
theorem m_Mset (l : Launch) (g : am_G) {h : am_H} {wd x : Nat} {R : Nat → Int} {v : Int} (w : rX h wd R) (hx : x < 12) :
    am_Met l g yX5_set (am_W1 yX5_set cX5_set 5 none) 1 0 0 [.ref 43, vI (x : Int), vL v] h (qN fun h1 => ∃ R', h1 = am_up h 44 (eI 1920 R') ∧ rg R' x (v % 18446744073709551616).toNat ∧ rK R R' x) := by
  obtain ⟨⟨th, us, ro, to, h0⟩, h1, w1, w2⟩ := w
  obtain ⟨a, ha⟩ : ∃ a, a = (v % 18446744073709551616).toNat := ⟨_, rfl⟩
  have am : v % 18446744073709551616 = (a : Int) := by omega
  have al : a < 32768 ^ 5 := Nat.lt_trans (show a < 18446744073709551616 by omega) (by decide)
  rw [← ha]
  refine am_mk [some (.ref 43), some (vI (x : Int)), some (vL v), none, none] 1 rfl rfl (by decide +kernel) (fun z hl hg hC hT _ => ?_)
  have loop : ∀ (m k : Nat) (R' : Nat → Int), k + m = 160 → rK R R' x → (∀ j, j < k → R' (160 * x + j) = (pg a j : Int)) → am_W z 3 0 0 (am_up h 44 (eI 1920 R')) [some (.ref 43), some (vI (x : Int)), some (vL v), none, some (vI (k : Int))] [] := by
    intro m
    induction m with
    | zero =>
      intro k R' hk o hf
      refine am_iload4 hC dX5_set_3 ?_
      refine am_sipush hC dX5_set_5 rfl ?_
      refine am_icmp_ge hC 52 dX5_set_8 rfl (by omega) (by omega) (fun c8 => ?_) (fun c8 => ?_)
      · exact am_vret hC hT dX5_set_52 (by omega) (by omega) ⟨rfl, R', rfl, fun j hj => hf j (by omega), o⟩
      · exact absurd c8 (by omega)
    | succ m ih =>
      intro k R' hk o hf
      have g0 : (am_up h 44 (eI 1920 R')).2 43 = _ := (am_up_ne h (eI 1920 R') (show 43 ≠ 44 by decide)).trans h0
      have g1 := am_up_at h 44 (eI 1920 R')
      have nx : ∀ pv : Int, pv = (pg a k : Int) → am_W z 3 0 0 (am_up h 44 (eI 1920 (am_fu R' (160 * x + k) pv))) [some (.ref 43), some (vI (x : Int)), some (vL v), none, some (vI ((k + 1 : Nat) : Int))] [] := by
        intro pv hpv
        refine ih (k + 1) _ (by omega) (o.fu (by omega)) (fun j hj => ?_)
        by_cases e : j = k
        · subst e; rw [am_fu_at, hpv]
        · rw [am_fu_lt (by omega)]; exact hf j (by omega)
      refine am_iload4 hC dX5_set_3 ?_
      refine am_sipush hC dX5_set_5 rfl ?_
      refine am_icmp_ge hC 52 dX5_set_8 rfl (by omega) (by omega) (fun c8 => ?_) (fun c8 => ?_)
      · exact absurd c8 (by omega)
      · refine am_aload0 hC dX5_set_11 ?_
        refine am_getf hC dX5_set_12 fX5_13 g0 rfl ?_
        refine am_sipush hC dX5_set_15 rfl ?_
        refine am_iload1 hC dX5_set_18 ?_
        refine am_imul hC dX5_set_19 ?_
        refine am_iload4 hC dX5_set_20 ?_
        refine am_iadd hC dX5_set_22 ?_
        refine am_iload4 hC dX5_set_23 ?_
        refine am_iconst hC dX5_set_25 ?_
        refine am_icmp_ge hC 44 dX5_set_26 rfl (by omega) (by omega) (fun c26 => ?_) (fun c26 => ?_)
        · refine am_iconst hC dX5_set_44 ?_
          rw [show (160 * (x : Int) + (k : Int)) = ((160 * x + k : Nat) : Int) by omega]
          refine am_iast hC dX5_set_45 g1 (by omega) (by omega) ?_
          rw [Int.toNat_natCast, am_up_up]
          refine am_iinc4 hC dX5_set_46 rfl ?_
          refine am_goto hC 3 dX5_set_49 rfl ?_
          rw [show (k : Int) + 1 = ((k + 1 : Nat) : Int) by omega]
          refine nx _ ?_
          first
            | (rw [pg_out al (by omega)]; rfl)
            | (unfold pg hp; rw [show (32768 : Nat) ^ k = 2 ^ (15 * k) by rw [Nat.pow_mul], Int.natCast_emod, Int.natCast_ediv, Int.natCast_pow]; rfl)
        · refine am_lload2 hC dX5_set_29 ?_
          refine am_bipush hC dX5_set_30 rfl ?_
          refine am_iload4 hC dX5_set_32 ?_
          refine am_imul hC dX5_set_34 ?_
          refine am_lushr hC (15 * k) dX5_set_35 (by omega) (by omega) ?_
          rw [am]
          refine am_l2i hC dX5_set_36 ?_
          refine am_sipush hC dX5_set_37 rfl ?_
          refine am_iand hC 15 32768 dX5_set_40 (by decide) rfl rfl ?_
          refine am_goto hC 45 dX5_set_41 rfl ?_
          rw [show (160 * (x : Int) + (k : Int)) = ((160 * x + k : Nat) : Int) by omega]
          refine am_iast hC dX5_set_45 g1 (by omega) (by omega) ?_
          rw [Int.toNat_natCast, am_up_up]
          refine am_iinc4 hC dX5_set_46 rfl ?_
          refine am_goto hC 3 dX5_set_49 rfl ?_
          rw [show (k : Int) + 1 = ((k + 1 : Nat) : Int) by omega]
          refine nx _ ?_
          first
            | (rw [pg_out al (by omega)]; rfl)
            | (unfold pg hp; rw [show (32768 : Nat) ^ k = 2 ^ (15 * k) by rw [Nat.pow_mul], Int.natCast_emod, Int.natCast_ediv, Int.natCast_pow]; rfl)
  refine am_iconst hC dX5_set_0 ?_
  refine am_istore4 hC dX5_set_1 rfl ?_
  have := loop 160 0 R rfl (rK.rf _ _) (fun j hj => by omega)
  rw [am_up_self h1] at this
  exact this

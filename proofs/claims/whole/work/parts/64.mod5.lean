/-! divide -/
theorem pg_bit {Q k : Nat} (h : Q % 2 ^ (k + 1) = 0) (j : Nat) : pg (Q + 2 ^ k) j = pg Q j + (if j = k / 15 then 2 ^ (k % 15) else 0) := by
  obtain ⟨m, hm⟩ : ∃ m, Q = 2 ^ (k + 1) * m := ⟨Q / 2 ^ (k + 1), by have := Nat.div_add_mod Q (2 ^ (k + 1)); omega⟩
  unfold pg hp
  rw [show (32768 : Nat) = 2 ^ 15 from rfl, ← Nat.pow_mul]
  rcases Nat.lt_trichotomy j (k / 15) with c | c | c
  · rw [if_neg (by omega), Nat.add_zero, show 2 ^ k = 2 ^ (15 * j) * (2 ^ 15 * 2 ^ (k - 15 * j - 15)) by rw [← Nat.pow_add, ← Nat.pow_add]; congr 1; omega, Nat.add_mul_div_left _ _ (Nat.two_pow_pos _), Nat.add_mul_mod_self_left]
  · subst c
    rw [if_pos rfl]
    have e1 : 2 ^ k = 2 ^ (15 * (k / 15)) * 2 ^ (k % 15) := by rw [← Nat.pow_add, Nat.div_add_mod k 15]
    have e2 : Q / 2 ^ (15 * (k / 15)) = 2 ^ (k % 15 + 1) * m := by
      rw [hm, show 2 ^ (k + 1) = 2 ^ (15 * (k / 15)) * 2 ^ (k % 15 + 1) by rw [← Nat.pow_add, ← Nat.add_assoc, Nat.div_add_mod k 15], Nat.mul_assoc, Nat.mul_div_cancel_left _ (Nat.two_pow_pos _)]
    rw [e1, Nat.add_mul_div_left _ _ (Nat.two_pow_pos _), e2]
    have hr : k % 15 < 15 := Nat.mod_lt _ (by decide)
    have e3 : 2 ^ 15 = 2 ^ (k % 15 + 1) * 2 ^ (14 - k % 15) := by rw [← Nat.pow_add]; congr 1; omega
    rw [e3, Nat.mul_mod_mul_left]
    have e4 : m % 2 ^ (14 - k % 15) < 2 ^ (14 - k % 15) := Nat.mod_lt _ (Nat.two_pow_pos _)
    have e5 : 2 ^ (k % 15 + 1) * m = 2 ^ (k % 15 + 1) * (m % 2 ^ (14 - k % 15)) + 2 ^ (k % 15 + 1) * 2 ^ (14 - k % 15) * (m / 2 ^ (14 - k % 15)) := by
      rw [Nat.mul_assoc, ← Nat.mul_add, Nat.mod_add_div]
    rw [e5, Nat.add_right_comm, Nat.add_mul_mod_self_left]
    refine Nat.mod_eq_of_lt ?_
    have e6 : 2 ^ (k % 15 + 1) * (m % 2 ^ (14 - k % 15) + 1) ≤ 2 ^ (k % 15 + 1) * 2 ^ (14 - k % 15) := Nat.mul_le_mul_left _ e4
    rw [Nat.mul_add, Nat.mul_one] at e6
    have e7 : 2 ^ (k % 15) < 2 ^ (k % 15 + 1) := Nat.pow_lt_pow_right (by decide) (by omega)
    omega
  · rw [if_neg (by omega), Nat.add_zero]
    have e1 : 2 ^ (15 * j) = 2 ^ (k + 1) * 2 ^ (15 * j - (k + 1)) := by rw [← Nat.pow_add]; congr 1; omega
    rw [e1, ← Nat.div_div_eq_div_mul, ← Nat.div_div_eq_div_mul, hm, Nat.mul_add_div (Nat.two_pow_pos _), Nat.mul_div_cancel_left _ (Nat.two_pow_pos _), Nat.div_eq_of_lt (Nat.pow_lt_pow_right (by decide) (Nat.lt_succ_self k)), Nat.add_zero]
def rF (R R' : Nat → Int) (S : List Nat) : Prop := ∀ j, (∀ x ∈ S, j < 160 * x ∨ 160 * x + 160 ≤ j) → R' j = R j
theorem rF.rf (R : Nat → Int) (S : List Nat) : rF R R S := fun _ _ => rfl
theorem rF.tr {R R1 R2 : Nat → Int} {S : List Nat} (a : rF R R1 S) (b : rF R1 R2 S) : rF R R2 S := fun j hj => (b j hj).trans (a j hj)
theorem rF.wk {R R1 : Nat → Int} {S S' : List Nat} (a : rF R R1 S) (b : ∀ x ∈ S, x ∈ S') : rF R R1 S' := fun j hj => a j (fun x hx => hj x (b x hx))
theorem rK.f {R R1 : Nat → Int} {x : Nat} {S : List Nat} (a : rK R R1 x) (b : x ∈ S) : rF R R1 S := fun j hj => a j (hj x b)
theorem rg.on {R R' : Nat → Int} {S : List Nat} {y b : Nat} (w : rg R y b) (o : rF R R' S) (q : y ∉ S) : rg R' y b := fun k hk => by
  rw [o _ (fun x hx => by have : x ≠ y := fun e => q (e ▸ hx); omega)]; exact w k hk
/-- one bit comes into a register -/
theorem rg.bit {R : Nat → Int} {x Q k : Nat} {v : Int} (w : rg R x Q) (h : Q % 2 ^ (k + 1) = 0) (hk : k < 2400) (hv : v = (pg Q (k / 15) : Int) + ((2 ^ (k % 15) : Nat) : Int)) : rg (am_fu R (160 * x + k / 15) v) x (Q + 2 ^ k) := fun j hj => by
  rw [pg_bit h]
  by_cases c : j = k / 15
  · rw [if_pos c, c, am_fu_at, hv, Int.natCast_add]
  · rw [if_neg c, Nat.add_zero, am_fu_lt (by omega)]; exact w j hj
theorem m_Mdivide (l : Launch) (g : am_G) {h : am_H} {wd x y q t a b : Nat} {R : Nat → Int} (w : rX h wd R) (hx : x < 12) (hy : y < 12) (hq : q < 12) (ht : t < 12) (xq : x ≠ q) (xt : x ≠ t) (yq : y ≠ q) (yt : y ≠ t) (qt : q ≠ t) (p : rg R x a) (p2 : rg R y b) (la : a < 32768 ^ wd) (lb : b < 32768 ^ wd) (hb : 0 < b) :
    am_Met l g yX5_divide (am_W1 yX5_divide cX5_divide 6 none) 2 0 0 [.ref 43, vI (x : Int), vI (y : Int), vI (q : Int), vI (t : Int)] h (qN fun h1 => ∃ R', h1 = am_up h 44 (eI 1920 R') ∧ rg R' q (a / b) ∧ rg R' t (a % b) ∧ rF R R' [q, t]) := by
  have w' := w
  obtain ⟨⟨th, us, ro, to, h0⟩, h1, w1, w2⟩ := w
  refine am_mk [some (.ref 43), some (vI (x : Int)), some (vI (y : Int)), some (vI (q : Int)), some (vI (t : Int)), none] 1 rfl rfl (by decide +kernel) (fun z hl hg hC hT _ => ?_)
  have loop : ∀ (n : Nat) (R' : Nat → Int), n ≤ 15 * wd → rF R R' [q, t] → rg R' t (a / 2 ^ n % b) → rg R' q (a / 2 ^ n / b * 2 ^ n) → am_W z 22 0 0 (am_up h 44 (eI 1920 R')) [some (.ref 43), some (vI (x : Int)), some (vI (y : Int)), some (vI (q : Int)), some (vI (t : Int)), some (vI ((n : Int) - 1))] [] := by
    intro n
    induction n with
    | zero =>
      intro R' hn o rt rq
      rw [Nat.pow_zero, Nat.div_one] at rt rq
      rw [Nat.mul_one] at rq
      refine am_iload5 hC dX5_divide_22 ?_
      refine am_if_lt hC 120 dX5_divide_24 rfl (by omega) (fun c24 => ?_) (fun c24 => ?_)
      · exact am_vret hC hT dX5_divide_120 (by omega) (by omega) ⟨rfl, R', rfl, rq, rt, o⟩
      · exact absurd c24 (by omega)
    | succ n ih =>
      intro R' hn o rt rq
      rw [show ((n + 1 : Nat) : Int) - 1 = (n : Int) by omega]
      have hn2 : n < 2400 := by omega
      have g0 : (am_up h 44 (eI 1920 R')).2 43 = _ := (am_up_ne h (eI 1920 R') (show 43 ≠ 44 by decide)).trans h0
      obtain ⟨A, hA⟩ : ∃ A, A = a / 2 ^ n := ⟨_, rfl⟩
      have A2 : a / 2 ^ (n + 1) = A / 2 := by rw [hA, Nat.pow_succ, Nat.div_div_eq_div_mul]
      have Aa : A ≤ a := by rw [hA]; exact Nat.div_le_self _ _
      rw [A2] at rt rq
      obtain ⟨r, hr⟩ : ∃ r, r = A / 2 % b := ⟨_, rfl⟩
      obtain ⟨s, hs⟩ : ∃ s, s = A / 2 / b := ⟨_, rfl⟩
      rw [← hr] at rt
      rw [← hs] at rq
      have rl : r < b := by rw [hr]; exact Nat.mod_lt _ hb
      have rle : r ≤ A / 2 := by rw [hr]; exact Nat.mod_le _ _
      have sr : A / 2 = b * s + r := by rw [hr, hs]; exact (Nat.div_add_mod _ _).symm
      obtain ⟨bt, hbt⟩ : ∃ bt, bt = A % 2 := ⟨_, rfl⟩
      have b01 : bt < 2 := by rw [hbt]; exact Nat.mod_lt _ (by decide)
      have eA : A = b * (2 * s) + (2 * r + bt) := by rw [Nat.mul_left_comm]; omega
      have vx : R' (160 * x + n / 15) = (pg a (n / 15) : Int) := by rw [o _ (by simp; omega)]; exact p _ (by omega)
      have bp := bitp a n
      rw [← hA, ← hbt] at bp
      have td : ((n : Nat) : Int).tdiv 15 = ((n / 15 : Nat) : Int) := by rw [Int.tdiv_eq_ediv_of_nonneg (by omega)]; rfl
      have tm : ((n : Nat) : Int).tmod 15 = ((n % 15 : Nat) : Int) := by rw [Int.tmod_eq_emod_of_nonneg (by omega)]; rfl
      have l1 := pg_lt a (n / 15)
      have nxt : ∀ (R4 : Nat → Int) (s' r' : Nat), rF R R4 [q, t] → s' = A / b → r' = A % b → rg R4 t r' → rg R4 q (s' * 2 ^ n) → am_W z 114 0 0 (am_up h 44 (eI 1920 R4)) [some (.ref 43), some (vI (x : Int)), some (vI (y : Int)), some (vI (q : Int)), some (vI (t : Int)), some (vI (n : Int))] [] := by
        intro R4 s' r' o4 e1 e2 q1 q2
        refine am_iinc5 hC dX5_divide_114 rfl ?_
        refine am_goto hC 22 dX5_divide_117 rfl ?_
        rw [show (n : Int) + -1 = (n : Int) - 1 by omega]
        exact ih R4 (by omega) o4 (by rw [← hA, ← e2]; exact q1) (by rw [← hA, ← e1]; exact q2)
      refine am_iload5 hC dX5_divide_22 ?_
      refine am_if_lt hC 120 dX5_divide_24 rfl (by omega) (fun c24 => ?_) (fun c24 => ?_)
      · exact absurd c24 (by omega)
      · refine am_aload0 hC dX5_divide_27 ?_
        refine am_iload4 hC dX5_divide_28 ?_
        refine am_V1_qN hC 5 dX5_divide_30 kX5_46 (m_Mtwice _ _ (w'.up (R' := R')) ht rt (by omega)) g0 rfl (Nat.le_of_ble_eq_true rfl) (by decide) (by omega) (by omega) (fun h1' rr => ?_)
        obtain ⟨R1, e1, t1, f1⟩ := rr
        rw [am_up_up] at e1
        subst e1
        have o1 : rF R R1 [q, t] := o.tr (f1.f (by simp))
        have g01 : (am_up h 44 (eI 1920 R1)).2 43 = _ := (am_up_ne h (eI 1920 R1) (show 43 ≠ 44 by decide)).trans h0
        have g11 := am_up_at h 44 (eI 1920 R1)
        have v1 : R1 (160 * t) = (pg (2 * r) 0 : Int) := t1 0 (by decide)
        have vx1 : R1 (160 * x + n / 15) = (pg a (n / 15) : Int) := by rw [o1 _ (by simp; omega)]; exact p _ (by omega)
        have lp := pg_lt (2 * r) 0
        have rq1 : rg R1 q (s * 2 ^ (n + 1)) := rq.kept f1 qt
        refine am_aload0 hC dX5_divide_33 ?_
        refine am_getf hC dX5_divide_34 fX5_13 g01 rfl ?_
        refine am_sipush hC dX5_divide_37 rfl ?_
        refine am_iload4 hC dX5_divide_40 ?_
        refine am_imul hC dX5_divide_42 ?_
        refine am_dup2 hC dX5_divide_43 rfl rfl ?_
        rw [show (160 * (t : Int)) = ((160 * t : Nat) : Int) by omega]
        refine am_iald hC dX5_divide_44 g11 (by omega) (by omega) ?_
        rw [Int.toNat_natCast, v1]
        refine am_aload0 hC dX5_divide_45 ?_
        refine am_getf hC dX5_divide_46 fX5_13 g01 rfl ?_
        refine am_sipush hC dX5_divide_49 rfl ?_
        refine am_iload1 hC dX5_divide_52 ?_
        refine am_imul hC dX5_divide_53 ?_
        refine am_iload5 hC dX5_divide_54 ?_
        refine am_bipush hC dX5_divide_56 rfl ?_
        refine am_idiv hC dX5_divide_58 (by omega) (by omega) (by omega) ?_
        refine am_iadd hC dX5_divide_59 ?_
        rw [td, show (160 * (x : Int) + ((n / 15 : Nat) : Int)) = ((160 * x + n / 15 : Nat) : Int) by omega]
        refine am_iald hC dX5_divide_60 g11 (by omega) (by omega) ?_
        rw [Int.toNat_natCast, vx1]
        refine am_iload5 hC dX5_divide_61 ?_
        refine am_bipush hC dX5_divide_63 rfl ?_
        refine am_irem hC dX5_divide_65 (by omega) (by omega) (by omega) ?_
        rw [tm]
        refine am_ishr hC (n % 15) dX5_divide_66 (by omega) rfl (by omega) ?_
        refine am_iconst hC dX5_divide_67 ?_
        refine am_iand hC 1 2 dX5_divide_68 (by decide) rfl rfl ?_
        rw [pg_i2, bp]
        refine am_iadd hC dX5_divide_69 ?_
        refine am_iast hC dX5_divide_70 g11 (by omega) (by omega) ?_
        rw [Int.toNat_natCast, am_up_up]
        obtain ⟨R2, hR2⟩ : ∃ R2, R2 = am_fu R1 (160 * t) ((pg (2 * r) 0 : Int) + (bt : Int)) := ⟨_, rfl⟩
        rw [← hR2]
        have k12 : rK R1 R2 t := by rw [hR2]; exact (rK.rf R1 t).fu (k := 0) (by decide)
        have t2 : rg R2 t (2 * r + bt) := by
          rw [hR2]
          rcases Nat.lt_or_ge bt 1 with c | c
          · rw [show bt = 0 by omega, Nat.add_zero]
            intro j hj
            by_cases e : j = 0
            · subst e; rw [Nat.add_zero, am_fu_at]; omega
            · rw [am_fu_lt (by omega)]; exact t1 j hj
          · rw [show bt = 1 by omega]
            exact t1.bit (k := 0) (v := (pg (2 * r) 0 : Int) + ((1 : Nat) : Int)) (by omega) (by omega) rfl
        have o2 : rF R R2 [q, t] := o1.tr (k12.f (by simp))
        have y2 : rg R2 y b := p2.on o2 (by simp; omega)
        have rq2 : rg R2 q (s * 2 ^ (n + 1)) := rq1.kept k12 qt
        have g02 : (am_up h 44 (eI 1920 R2)).2 43 = _ := (am_up_ne h (eI 1920 R2) (show 43 ≠ 44 by decide)).trans h0
        have cs := cmpN_s (2 * r + bt) b
        refine am_aload0 hC dX5_divide_71 ?_
        refine am_iload4 hC dX5_divide_72 ?_
        refine am_iload2 hC dX5_divide_74 ?_
        refine am_V2_pI hC 5 dX5_divide_75 kX5_50 (m_Mcompare _ _ (w'.up (R' := R2)) ht hy t2 y2 (by omega) lb) g02 rfl (Nat.le_of_ble_eq_true rfl) (by decide) (by omega) (by omega) ?_
        refine am_if_lt hC 114 dX5_divide_78 rfl (by omega) (fun c78 => ?_) (fun c78 => ?_)
        · first
            | exact nxt R2 (2 * s) (2 * r + bt) o2 (by rw [eA, Nat.mul_add_div hb, Nat.div_eq_of_lt (by omega), Nat.add_zero]) (by rw [eA, Nat.mul_add_mod, Nat.mod_eq_of_lt (by omega)]) t2 (by rw [show 2 * s * 2 ^ n = s * 2 ^ (n + 1) by rw [Nat.pow_succ, Nat.mul_comm 2 s, Nat.mul_assoc, Nat.mul_comm 2]]; exact rq2)
            | exact nxt _ (2 * s + 1) (2 * r + bt - b) (o3.tr (rK.f ((rK.rf R3 q).fu (k := n / 15) (by omega)) (by simp))) (by rw [eA, Nat.mul_add_div hb, Nat.div_eq_sub_div hb (by omega), Nat.div_eq_of_lt (by omega)]) (by rw [eA, Nat.mul_add_mod, Nat.mod_eq_sub_mod (by omega), Nat.mod_eq_of_lt (by omega)]) (t3.kept ((rK.rf R3 q).fu (k := n / 15) (by omega)) (Ne.symm qt)) (by rw [show (2 * s + 1) * 2 ^ n = s * 2 ^ (n + 1) + 2 ^ n by rw [Nat.add_mul, Nat.one_mul, Nat.pow_succ, Nat.mul_comm 2 s, Nat.mul_assoc, Nat.mul_comm 2]]; exact rq3.bit (Nat.mul_mod_left _ _) hn2 (by rw [Int.one_mul, Int.natCast_pow]; rfl))
        · refine am_aload0 hC dX5_divide_81 ?_
          refine am_iload4 hC dX5_divide_82 ?_
          refine am_iload2 hC dX5_divide_84 ?_
          refine am_V2_qN hC 5 dX5_divide_85 kX5_54 (m_Mminus _ _ (w'.up (R' := R2)) ht hy yt t2 y2 (by omega) (by omega)) g02 rfl (Nat.le_of_ble_eq_true rfl) (by decide) (by omega) (by omega) (fun h1' rr => ?_)
          obtain ⟨R3, e3, t3, f3⟩ := rr
          rw [am_up_up] at e3
          subst e3
          have o3 : rF R R3 [q, t] := o2.tr (f3.f (by simp))
          have rq3 : rg R3 q (s * 2 ^ (n + 1)) := rq2.kept f3 qt
          have g03 : (am_up h 44 (eI 1920 R3)).2 43 = _ := (am_up_ne h (eI 1920 R3) (show 43 ≠ 44 by decide)).trans h0
          have g13 := am_up_at h 44 (eI 1920 R3)
          have v3 := rq3 (n / 15) (by omega)
          refine am_aload0 hC dX5_divide_88 ?_
          refine am_getf hC dX5_divide_89 fX5_13 g03 rfl ?_
          refine am_sipush hC dX5_divide_92 rfl ?_
          refine am_iload3 hC dX5_divide_95 ?_
          refine am_imul hC dX5_divide_96 ?_
          refine am_iload5 hC dX5_divide_97 ?_
          refine am_bipush hC dX5_divide_99 rfl ?_
          refine am_idiv hC dX5_divide_101 (by omega) (by omega) (by omega) ?_
          refine am_iadd hC dX5_divide_102 ?_
          refine am_dup2 hC dX5_divide_103 rfl rfl ?_
          rw [td, show (160 * (q : Int) + ((n / 15 : Nat) : Int)) = ((160 * q + n / 15 : Nat) : Int) by omega]
          refine am_iald hC dX5_divide_104 g13 (by omega) (by omega) ?_
          rw [Int.toNat_natCast, v3]
          refine am_iconst hC dX5_divide_105 ?_
          refine am_iload5 hC dX5_divide_106 ?_
          refine am_bipush hC dX5_divide_108 rfl ?_
          refine am_irem hC dX5_divide_110 (by omega) (by omega) (by omega) ?_
          rw [tm]
          refine am_ishl hC (n % 15) dX5_divide_111 rfl (by omega) ?_
          refine am_iadd hC dX5_divide_112 ?_
          refine am_iast hC dX5_divide_113 g13 (by omega) (by omega) ?_
          rw [Int.toNat_natCast, am_up_up]
          first
            | exact nxt R2 (2 * s) (2 * r + bt) o2 (by rw [eA, Nat.mul_add_div hb, Nat.div_eq_of_lt (by omega), Nat.add_zero]) (by rw [eA, Nat.mul_add_mod, Nat.mod_eq_of_lt (by omega)]) t2 (by rw [show 2 * s * 2 ^ n = s * 2 ^ (n + 1) by rw [Nat.pow_succ, Nat.mul_comm 2 s, Nat.mul_assoc, Nat.mul_comm 2]]; exact rq2)
            | exact nxt _ (2 * s + 1) (2 * r + bt - b) (o3.tr (rK.f ((rK.rf R3 q).fu (k := n / 15) (by omega)) (by simp))) (by rw [eA, Nat.mul_add_div hb, Nat.div_eq_sub_div hb (by omega), Nat.div_eq_of_lt (by omega)]) (by rw [eA, Nat.mul_add_mod, Nat.mod_eq_sub_mod (by omega), Nat.mod_eq_of_lt (by omega)]) (t3.kept ((rK.rf R3 q).fu (k := n / 15) (by omega)) (Ne.symm qt)) (by rw [show (2 * s + 1) * 2 ^ n = s * 2 ^ (n + 1) + 2 ^ n by rw [Nat.add_mul, Nat.one_mul, Nat.pow_succ, Nat.mul_comm 2 s, Nat.mul_assoc, Nat.mul_comm 2]]; exact rq3.bit (Nat.mul_mod_left _ _) hn2 (by rw [Int.one_mul, Int.natCast_pow]; rfl))
  refine am_aload0 hC dX5_divide_0 ?_
  refine am_iload3 hC dX5_divide_1 ?_
  refine am_lconst0 hC dX5_divide_2 ?_
  refine am_V2_qN hC 5 dX5_divide_3 kX5_36 (m_Mset (v := 0) _ _ w' hq) h0 rfl (Nat.le_of_ble_eq_true rfl) (by decide) (by omega) (by omega) (fun h1' rr => ?_)
  obtain ⟨R1, rfl, r1, f1⟩ := rr
  have g01 : (am_up h 44 (eI 1920 R1)).2 43 = _ := (am_up_ne h (eI 1920 R1) (show 43 ≠ 44 by decide)).trans h0
  refine am_aload0 hC dX5_divide_6 ?_
  refine am_iload4 hC dX5_divide_7 ?_
  refine am_lconst0 hC dX5_divide_9 ?_
  refine am_V2_qN hC 5 dX5_divide_10 kX5_36 (m_Mset (v := 0) _ _ (w'.up (R' := R1)) ht) g01 rfl (Nat.le_of_ble_eq_true rfl) (by decide) (by omega) (by omega) (fun h1' rr => ?_)
  obtain ⟨R2, e2, r2, f2⟩ := rr
  rw [am_up_up] at e2
  subst e2
  have g02 : (am_up h 44 (eI 1920 R2)).2 43 = _ := (am_up_ne h (eI 1920 R2) (show 43 ≠ 44 by decide)).trans h0
  have x2 : rg R2 x a := (p.kept f1 xq).kept f2 xt
  have q2 : rg R2 q 0 := r1.kept f2 qt
  have az : a / 2 ^ bl a = 0 := Nat.div_eq_of_lt (bl_le.mp (Nat.le_refl _))
  have bw : bl a ≤ 15 * wd := bl_le.mpr (by rw [← B15]; exact la)
  refine am_aload0 hC dX5_divide_13 ?_
  refine am_iload1 hC dX5_divide_14 ?_
  refine am_V1_pI hC 5 dX5_divide_15 kX5_42 (m_Msize _ _ (w'.up (R' := R2)) hx x2 la) g02 rfl (Nat.le_of_ble_eq_true rfl) (by decide) (by omega) (by omega) ?_
  refine am_iconst hC dX5_divide_18 ?_
  refine am_isub hC dX5_divide_19 ?_
  refine am_istore5 hC dX5_divide_20 rfl ?_
  exact loop (bl a) R2 bw ((f1.f (by simp)).tr (f2.f (by simp))) (by rw [az, Nat.zero_mod]; exact r2) (by rw [az, Nat.zero_div, Nat.zero_mul]; exact q2)

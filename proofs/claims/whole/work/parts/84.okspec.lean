/-! what every call keeps: aOK -/
theorem ok_put {s : aS} {sd : Int} {a b : Nat} (ok : aOK s) (h1 : sd = -1 ∨ sd = 0 ∨ sd = 1) (h2 : a ≠ 0 → sd ≠ 0) (hb : 0 < b) : aOK (aPut s sd a b).2 ∧ -1 ≤ (aPut s sd a b).1 ∧ (aPut s sd a b).1 < 150 := by
  by_cases q : 150 ≤ s.1 ∨ 800 < bl (a / Nat.gcd a b) ∨ 800 < bl (b / Nat.gcd a b)
  · rw [aPut_n q]; exact ⟨ok, by show (-1 : Int) ≤ -1; decide, by show (-1 : Int) < 150; decide⟩
  · rw [aPut_y q]
    obtain ⟨o1, o2, o3, o4, o5, o6⟩ := ok
    refine ⟨⟨by show s.1 + 1 ≤ 150; omega, fun i hi => ?_, o3, o4, o5, o6⟩, by show -1 ≤ (s.1 : Int); omega, by show (s.1 : Int) < 150; omega⟩
    show vOK (aSet s.2.1 s.1 (if a = 0 then 0 else sd, a / Nat.gcd a b, b / Nat.gcd a b) i)
    unfold aSet
    by_cases c : i = s.1
    · rw [if_pos c]
      have e := gcd_div0 (a := a) hb
      have gp : 0 < Nat.gcd a b := Nat.gcd_pos_of_pos_right _ hb
      have bp : 0 < b / Nat.gcd a b := Nat.div_pos (Nat.le_of_dvd hb (Nat.gcd_dvd_right a b)) gp
      refine ⟨?_, ?_, bp, by show bl (a / Nat.gcd a b) ≤ 800; omega, by show bl (b / Nat.gcd a b) ≤ 800; omega⟩
      · show (if a = 0 then 0 else sd) = -1 ∨ (if a = 0 then 0 else sd) = 0 ∨ (if a = 0 then 0 else sd) = 1
        by_cases d : a = 0
        · rw [if_pos d]; exact Or.inr (Or.inl rfl)
        · rw [if_neg d]; exact h1
      · show (if a = 0 then 0 else sd) = 0 ↔ a / Nat.gcd a b = 0
        by_cases d : a = 0
        · rw [if_pos d]; exact ⟨fun _ => e.mpr d, fun _ => rfl⟩
        · rw [if_neg d]; exact ⟨fun x => absurd x (h2 d), fun x => absurd (e.mp x) d⟩
    · rw [if_neg c]; exact o2 i hi
theorem ok_value {s : aS} {a b : Int} (ok : aOK s) (hb : b ≠ 0) : aOK (aValue s a b).2 := by
  unfold aValue
  refine (ok_put ok ?_ ?_ (by omega)).1
  · split <;> simp
  · intro _; split <;> decide
theorem okv_s {s : aS} (ok : aOK s) {i : Int} (hi : okV i) : vOK (s.2.1 i.toNat) := ok.2.1 _ (by have := hi.1; have := hi.2; omega)
theorem ok_times {s : aS} {i j : Int} (ok : aOK s) (hi : okV i) (hj : okV j) : aOK (aTimes s i.toNat j.toNat).2 := by
  have u := okv_s ok hi
  have v := okv_s ok hj
  unfold aTimes
  refine (ok_put ok (sg3 u.1 v.1) (fun c => ?_) (Nat.mul_pos u.2.2.1 v.2.2.1)).1
  refine Int.mul_ne_zero (fun e => c ?_) (fun e => c ?_)
  · rw [u.2.1.mp e, Nat.zero_mul]
  · rw [v.2.1.mp e, Nat.mul_zero]
theorem ok_over {s : aS} {i j : Int} (ok : aOK s) (hi : okV i) (hj : okV j) (h0 : (s.2.1 j.toNat).1 ≠ 0) : aOK (aOver s i.toNat j.toNat).2 := by
  have u := okv_s ok hi
  have v := okv_s ok hj
  unfold aOver
  refine (ok_put ok (sg3 u.1 v.1) (fun c => ?_) (Nat.mul_pos u.2.2.1 (Nat.pos_of_ne_zero (fun e => h0 (v.2.1.mpr e))))).1
  refine Int.mul_ne_zero (fun e => c ?_) h0
  rw [u.2.1.mp e, Nat.zero_mul]
theorem ok_add {s : aS} {i j : Int} (ok : aOK s) (hi : okV i) (hj : okV j) : aOK (aAdd s i.toNat j.toNat).2 := by
  have u := okv_s ok hi
  have v := okv_s ok hj
  obtain ⟨x, hx⟩ : ∃ x, x = s.2.1 i.toNat := ⟨_, rfl⟩
  obtain ⟨y, hy⟩ : ∃ y, y = s.2.1 j.toNat := ⟨_, rfl⟩
  unfold aAdd
  rw [← hx] at u ⊢
  rw [← hy] at v ⊢
  have pb := Nat.mul_pos u.2.2.1 v.2.2.1
  have u1 := u.1
  have v1 := v.1
  by_cases c : 0 ≤ x.1 * y.1
  · rw [if_pos c]
    refine (ok_put ok ?_ (fun d => ?_) pb).1
    · split <;> assumption
    · by_cases e : x.1 = 0
      · rw [if_neg (fun q => q e)]
        refine fun f => d ?_
        rw [u.2.1.mp e, v.2.1.mp f, Nat.zero_mul, Nat.zero_mul]
      · rw [if_pos e]; exact e
  · rw [if_neg c]
    have nx : x.1 ≠ 0 := fun e => c (by rw [e, Int.zero_mul]; exact Int.le_refl _)
    have ny : y.1 ≠ 0 := fun e => c (by rw [e, Int.mul_zero]; exact Int.le_refl _)
    by_cases d : y.2.1 * x.2.2 ≤ x.2.1 * y.2.2
    · rw [if_pos d]; exact (ok_put ok u1 (fun _ => nx) pb).1
    · rw [if_neg d]; exact (ok_put ok v1 (fun _ => ny) pb).1
theorem ok_turn {s : aS} {i a b : Int} (ok : aOK s) (hi : okV i) : aOK (aTurn s i.toNat a.toNat b.toNat).2 := by
  have u := okv_s ok hi
  unfold aTurn
  have rb := (tabs b.toNat).2.2
  refine (ok_put ok u.1 (fun c e => c ?_) (Nat.mul_pos u.2.2.1 rb)).1
  rw [u.2.1.mp e, Nat.zero_mul]
theorem ok_round {s : aS} {i rule : Int} {U : Nat} (ok : aOK s) (hi : okV i) : aOK (aRound s i.toNat rule U).2 := by
  have u := okv_s ok hi
  unfold aRound
  refine (ok_put ok u.1 (fun c e => c ?_) (by decide)).1
  rw [u.2.1.mp e, Nat.zero_div, Nat.zero_mod, aGr, if_neg (fun q => q.1 rfl), Nat.zero_mul]
theorem ok_weight {s : aS} {v : Int} (ok : aOK s) : aOK (aWeight s v).2 := by
  unfold aWeight
  by_cases c : s.2.2.2.2.1 = 32 ∨ v < 0 ∨ 1000000000 < v
  · rw [if_pos c]; exact ok
  · rw [if_neg c]
    obtain ⟨o1, o2, o3, o4, o5, o6⟩ := ok
    refine ⟨o1, o2, o3, o4, by show s.2.2.2.2.1 + 1 ≤ 32; omega, fun i hi => ?_⟩
    show 0 ≤ am_fu s.2.2.2.2.2 s.2.2.2.2.1 v i ∧ am_fu s.2.2.2.2.2 s.2.2.2.2.1 v i ≤ 1000000000
    by_cases d : i = s.2.2.2.2.1
    · rw [d, am_fu_at]; omega
    · rw [am_fu_lt d]; exact o6 i hi
theorem ok_clear {s : aS} (ok : aOK s) : aOK (aClear s) := by
  obtain ⟨o1, o2, o3, o4, o5, o6⟩ := ok
  refine ⟨o1, o2, o3, o4, Nat.zero_le _, fun i hi => ?_⟩
  show 0 ≤ wZ s.2.2.2.2.2 32 i ∧ wZ s.2.2.2.2.2 32 i ≤ 1000000000
  unfold wZ
  rw [if_pos hi]
  decide
theorem ok_setE {s : aS} {k : Nat} {v : Int} (ok : aOK s) (hv : -1 ≤ v ∧ v < 150) : aOK (setE s k v) := by
  obtain ⟨o1, o2, o3, o4, o5, o6⟩ := ok
  refine ⟨o1, o2, o3, fun i hi => ?_, o5, o6⟩
  show -1 ≤ am_fu s.2.2.2.1 k v i ∧ am_fu s.2.2.2.1 k v i < 150
  by_cases d : i = k
  · rw [d, am_fu_at]; exact hv
  · rw [am_fu_lt d]; exact o4 i hi
theorem ok_root {s : aS} {i p : Int} (ok : aOK s) : aOK (aRoot s i.toNat p.toNat).2 := by
  unfold aRoot
  by_cases c : 40 ≤ s.2.2.1 ∨ 150 < s.1 + 2
  · rw [if_pos c]; exact ok
  · rw [if_neg c]
    have k1 := ok_put (sd := 1) (a := rtN s i.toNat p.toNat) (b := 2 ^ p.toNat) ok (Or.inr (Or.inr rfl)) (fun _ => by decide) (Nat.two_pow_pos _)
    have r1 : aOK (rt1 s i.toNat p.toNat) := ok_setE k1.1 k1.2
    have k2 := ok_put (sd := 1) (a := rtN s i.toNat p.toNat + rtX s i.toNat p.toNat) (b := 2 ^ p.toNat) r1 (Or.inr (Or.inr rfl)) (fun _ => by decide) (Nat.two_pow_pos _)
    have r2 : aOK (rt2 s i.toNat p.toNat) := ok_setE k2.1 k2.2
    have e2 : (rt2 s i.toNat p.toNat).2.2.1 = s.2.2.1 := by
      have q1 := (aPut_k s 1 (rtN s i.toNat p.toNat) (2 ^ p.toNat)).1
      have q2 := (aPut_k (rt1 s i.toNat p.toNat) 1 (rtN s i.toNat p.toNat + rtX s i.toNat p.toNat) (2 ^ p.toNat)).1
      rw [rt2]
      show (aPut (rt1 s i.toNat p.toNat) 1 (rtN s i.toNat p.toNat + rtX s i.toNat p.toNat) (2 ^ p.toNat)).2.2.2.1 = _
      rw [q2, rt1]
      show (aPut s 1 (rtN s i.toNat p.toNat) (2 ^ p.toNat)).2.2.2.1 = _
      rw [q1]
    obtain ⟨o1, o2, o3, o4, o5, o6⟩ := r2
    exact ⟨o1, o2, by show (rt2 s i.toNat p.toNat).2.2.1 + 1 ≤ 40; omega, o4, o5, o6⟩
theorem ok_0 : aOK s0 := ⟨Nat.zero_le _, fun _ _ => ⟨Or.inr (Or.inl rfl), ⟨fun _ => rfl, fun _ => rfl⟩, Nat.one_pos, by show bl 0 ≤ 800; exact bl_le.mpr (Nat.two_pow_pos _), by show bl 1 ≤ 800; exact bl_le.mpr (by decide +kernel)⟩, Nat.zero_le _, fun _ _ => ⟨by show (-1 : Int) ≤ 0; decide, by show (0 : Int) < 150; decide⟩, Nat.zero_le _, fun _ _ => ⟨by show (0 : Int) ≤ 0; decide, by show (0 : Int) ≤ 1000000000; decide⟩⟩

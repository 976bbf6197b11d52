/-! Euclid's steps, one by one and foreseen (Knuth 4.5.2, algorithm L) -/
def Eu (a b a' b' : Nat) : Prop := Nat.gcd a' b' = Nat.gcd a b ∧ b' ≤ a' ∧ 2 * (a' * b') ≤ a * b ∧ a' ≤ a
theorem Eu.step {a b : Nat} (hb : 0 < b) (hab : b ≤ a) : Eu a b b (a % b) := by
  have hr : a % b < b := Nat.mod_lt _ hb
  refine ⟨by rw [Nat.gcd_comm a b, Nat.gcd_rec b a, Nat.gcd_comm], Nat.le_of_lt hr, ?_, hab⟩
  have h1 := Nat.div_add_mod a b
  have h2 : 1 ≤ a / b := (Nat.one_le_div_iff hb).mpr hab
  have h3 : b * 1 ≤ b * (a / b) := Nat.mul_le_mul_left _ h2
  have h4 : 2 * (a % b) ≤ a := by omega
  have h5 : 2 * (a % b) * b ≤ a * b := Nat.mul_le_mul_right _ h4
  rw [Nat.mul_comm b, ← Nat.mul_assoc]
  exact h5
theorem Eu.tr {a b a' b' a2 b2 : Nat} (h : Eu a b a' b') (k : Eu a' b' a2 b2) : Eu a b a2 b2 := by
  obtain ⟨h1, h2, h3, h4⟩ := h
  obtain ⟨k1, k2, k3, k4⟩ := k
  exact ⟨k1.trans h1, k2, by omega, Nat.le_trans k4 h4⟩
theorem tdiv_pos {a b q : Int} (hb : 0 < b) (h : a.tdiv b = q) (hq : 1 ≤ q) : q * b ≤ a := by
  rcases Int.lt_or_le a 0 with c | c
  · exfalso
    have : a.tdiv b ≤ 0 := by
      rw [show a = -(-a) by omega, Int.neg_tdiv]
      have := Int.tdiv_nonneg (a := -a) (b := b) (by omega) (by omega)
      omega
    omega
  · rw [Int.tdiv_eq_ediv_of_nonneg c] at h
    rw [← h]
    exact Int.ediv_mul_le a (by omega)
theorem tdiv_up {a b q : Int} (hb : 0 < b) (h : a.tdiv b = q) (ha : 0 < a) : a < (q + 1) * b := by
  rw [Int.tdiv_eq_ediv_of_nonneg (by omega)] at h
  rw [← h]
  exact Int.lt_ediv_add_one_mul_self a hb
/-- the quotient of the whole numbers, out of bounds of both that agree -/
theorem leh_q {X Y P gu lu gl ll q : Int} (hP : 0 < P) (hu : X ≤ P * gu) (hlu : P * lu ≤ Y) (lu0 : 0 < lu) (hgl : P * gl ≤ X) (hll : Y ≤ P * ll) (ll0 : 0 < ll) (hXY : Y ≤ X) (e1 : gu.tdiv lu = q) (e2 : gl.tdiv ll = q) : 1 ≤ q ∧ 0 < Y ∧ q * Y ≤ X ∧ X < (q + 1) * Y := by
  have hY : 0 < Y := Int.lt_of_lt_of_le (Int.mul_pos hP lu0) hlu
  have hgu : 0 < gu := by
    rcases Int.lt_or_le 0 gu with c | c
    · exact c
    · have := Int.mul_nonpos_of_nonneg_of_nonpos (Int.le_of_lt hP) c
      omega
  have u1 := tdiv_up lu0 e1 hgu
  have q0 : 0 ≤ q := by rw [← e1]; exact Int.tdiv_nonneg (by omega) (by omega)
  have u2 : P * gu < (q + 1) * Y := by
    have h1 : P * gu < P * ((q + 1) * lu) := Int.mul_lt_mul_of_pos_left u1 hP
    have h2 : (q + 1) * (P * lu) ≤ (q + 1) * Y := Int.mul_le_mul_of_nonneg_left hlu (by omega)
    have h3 : P * ((q + 1) * lu) = (q + 1) * (P * lu) := Int.mul_left_comm _ _ _
    omega
  have q1 : 1 ≤ q := by
    rcases Int.lt_or_le q 1 with c | c
    · exfalso
      have : q = 0 := by omega
      subst this
      omega
    · exact c
  have l1 := tdiv_pos ll0 e2 q1
  refine ⟨q1, hY, ?_, by omega⟩
  have h1 : P * (q * ll) ≤ P * gl := Int.mul_le_mul_of_nonneg_left l1 (Int.le_of_lt hP)
  have h2 : q * Y ≤ q * (P * ll) := Int.mul_le_mul_of_nonneg_left hll (by omega)
  have h3 : P * (q * ll) = q * (P * ll) := Int.mul_left_comm _ _ _
  omega
/-- what the windows' matrix says of the whole numbers: a = xh P + xl, b = yh P + yl -/
theorem leh_b {A B xh yh xl yl P a b : Int} (ea : a = xh * P + xl) (eb : b = yh * P + yl) (hx : 0 ≤ xl ∧ xl < P) (hy : 0 ≤ yl ∧ yl < P) (hs : 0 ≤ A ∧ B ≤ 0) : P * (A * xh + B * yh + B) ≤ A * a + B * b ∧ A * a + B * b ≤ P * (A * xh + B * yh + A) := by
  have e : A * a + B * b = P * (A * xh + B * yh) + (A * xl + B * yl) := by
    rw [ea, eb, Int.mul_add A, Int.mul_add B, Int.mul_add P, Int.mul_comm xh, Int.mul_comm yh, Int.mul_left_comm A, Int.mul_left_comm B]
    omega
  have h1 : 0 ≤ A * xl := Int.mul_nonneg hs.1 hx.1
  have h2 : A * xl ≤ A * P := Int.mul_le_mul_of_nonneg_left (by omega) hs.1
  have h3 : B * yl ≤ 0 := Int.mul_nonpos_of_nonpos_of_nonneg hs.2 hy.1
  have h4 : B * P ≤ B * yl := Int.mul_le_mul_of_nonpos_left hs.2 (by omega)
  rw [Int.mul_add P (A * xh + B * yh) B, Int.mul_add P (A * xh + B * yh) A, e, Int.mul_comm P A, Int.mul_comm P B]
  omega
theorem leh_b' {A B xh yh xl yl P a b : Int} (ea : a = xh * P + xl) (eb : b = yh * P + yl) (hx : 0 ≤ xl ∧ xl < P) (hy : 0 ≤ yl ∧ yl < P) (hs : A ≤ 0 ∧ 0 ≤ B) : P * (A * xh + B * yh + A) ≤ A * a + B * b ∧ A * a + B * b ≤ P * (A * xh + B * yh + B) := by
  have h := leh_b (A := B) (B := A) eb ea hy hx ⟨hs.2, hs.1⟩
  rw [Int.add_comm (B * yh), Int.add_comm (B * b)] at h
  exact h
/-- the state of the foreseen steps: X, Y the whole pair so far -/
def leI (a b : Nat) (xh yh : Int) (g l A B C D : Int) (X Y : Nat) : Prop :=
  (X : Int) = A * a + B * b ∧ (Y : Int) = C * a + D * b ∧ g = A * xh + B * yh ∧ l = C * xh + D * yh ∧ Y ≤ X ∧ X ≤ a ∧
  ((0 ≤ A ∧ B ≤ 0 ∧ C ≤ 0 ∧ 0 ≤ D) ∨ (A ≤ 0 ∧ 0 ≤ B ∧ 0 ≤ C ∧ D ≤ 0)) ∧ (A.natAbs ≤ 2147483647 ∧ B.natAbs ≤ 2147483647 ∧ C.natAbs ≤ 2147483647 ∧ D.natAbs ≤ 2147483647) ∧ (B = 0 ∨ Eu a b X Y) ∧ ((X = a ∧ Y = b) ∨ Eu a b X Y)
theorem leI.start {a b : Nat} (xh yh : Int) (h : b ≤ a) : leI a b xh yh xh yh 1 0 0 1 a b :=
  ⟨by omega, by omega, by omega, by omega, h, Nat.le_refl _, Or.inl (by omega), by decide, Or.inl rfl, Or.inl ⟨rfl, rfl⟩⟩
/-- the numbers of the windows stay in reach -/
theorem leI.rng {a b : Nat} {xh yh g l A B C D xl yl P : Int} {X Y : Nat} (h : leI a b xh yh g l A B C D X Y) (hP : 0 < P) (ea : (a : Int) = xh * P + xl) (eb : (b : Int) = yh * P + yl) (hx : 0 ≤ xl ∧ xl < P) (hy : 0 ≤ yl ∧ yl < P) (hxh : xh < 4611686018427387904) : -2147483647 ≤ g ∧ g ≤ 4611686020574871551 ∧ -2147483647 ≤ l ∧ l ≤ 4611686020574871551 := by
  obtain ⟨h1, h2, h3, h4, h5, h6, h7, h8, -, -⟩ := h
  have key : ∀ {A B : Int} {X : Nat}, (X : Int) = A * a + B * b → X ≤ a → ((0 ≤ A ∧ B ≤ 0) ∨ (A ≤ 0 ∧ 0 ≤ B)) → A.natAbs ≤ 2147483647 → B.natAbs ≤ 2147483647 → -2147483647 ≤ A * xh + B * yh ∧ A * xh + B * yh ≤ 4611686020574871551 := by
    intro A B X e hX hs hA hB
    have fin : ∀ u v : Int, P * (A * xh + B * yh + u) ≤ A * a + B * b → A * a + B * b ≤ P * (A * xh + B * yh + v) → -2147483647 ≤ u → v ≤ 2147483647 → -2147483647 ≤ A * xh + B * yh ∧ A * xh + B * yh ≤ 4611686020574871551 := by
      intro u v b1 b2 hu hv
      generalize A * xh + B * yh = w at *
      rw [← e] at b1 b2
      constructor
      · have h9 : 0 ≤ P * (w + v) := by omega
        have : 0 ≤ w + v := Int.le_of_mul_le_mul_left (by rw [Int.mul_zero]; exact h9) hP
        omega
      · have h9 : P * (w + u) < P * (xh + 1) := by
          have e9 : P * (xh + 1) = xh * P + P := by rw [Int.mul_add, Int.mul_comm]; omega
          omega
        have : w + u < xh + 1 := Int.lt_of_mul_lt_mul_left h9 (Int.le_of_lt hP)
        omega
    rcases hs with s | s
    · have := leh_b (A := A) (B := B) ea eb hx hy s
      exact fin B A this.1 this.2 (by omega) (by omega)
    · have := leh_b' (A := A) (B := B) ea eb hx hy s
      exact fin A B this.1 this.2 (by omega) (by omega)
  have k1 := key h1 h6 (by omega) h8.1 h8.2.1
  have k2 := key h2 (by omega) (by omega) h8.2.2.1 h8.2.2.2
  rw [← h3] at k1
  rw [← h4] at k2
  omega
/-- one step foreseen -/
theorem leI.step {a b : Nat} {xh yh g l A B C D xl yl P q : Int} {X Y : Nat} (h : leI a b xh yh g l A B C D X Y) (hP : 0 < P) (ea : (a : Int) = xh * P + xl) (eb : (b : Int) = yh * P + yl) (hx : 0 ≤ xl ∧ xl < P) (hy : 0 ≤ yl ∧ yl < P) (c1 : 0 < l + C) (c2 : 0 < l + D) (e1 : (g + A).tdiv (l + C) = q) (e2 : (g + B).tdiv (l + D) = q) (n1 : (A - q * C).natAbs ≤ 2147483647) (n2 : (B - q * D).natAbs ≤ 2147483647) :
    ∃ Y' : Nat, leI a b xh yh l (g - q * l) C D (A - q * C) (B - q * D) Y Y' := by
  obtain ⟨h1, h2, h3, h4, h5, h6, h7, h8, h9, h10⟩ := h
  have qq : 1 ≤ q ∧ 0 < (Y : Int) ∧ q * Y ≤ X ∧ (X : Int) < (q + 1) * Y := by
    rcases h7 with s | s
    · have b1 := leh_b (A := A) (B := B) ea eb hx hy ⟨s.1, s.2.1⟩
      have b2 := leh_b' (A := C) (B := D) ea eb hx hy ⟨s.2.2.1, s.2.2.2⟩
      rw [← h1, ← h3] at b1
      rw [← h2, ← h4] at b2
      exact leh_q hP b1.2 b2.1 c1 b1.1 b2.2 c2 (by omega) e1 e2
    · have b1 := leh_b' (A := A) (B := B) ea eb hx hy ⟨s.1, s.2.1⟩
      have b2 := leh_b (A := C) (B := D) ea eb hx hy ⟨s.2.2.1, s.2.2.2⟩
      rw [← h1, ← h3] at b1
      rw [← h2, ← h4] at b2
      exact leh_q hP b1.2 b2.1 c2 b1.1 b2.2 c1 (by omega) e2 e1
  obtain ⟨q1, y0, qy, xq⟩ := qq
  have hY : 0 < Y := by omega
  have eq : (X : Int) / Y = q := by
    have l1 := (Int.le_ediv_iff_mul_le (a := q) (b := (X : Int)) y0).mpr qy
    have l2 := (Int.ediv_lt_iff_lt_mul (a := (X : Int)) (b := q + 1) y0).mpr xq
    omega
  have em : ((X % Y : Nat) : Int) = X - q * Y := by
    have := Int.emod_add_mul_ediv (X : Int) Y
    rw [eq, Int.mul_comm (Y : Int)] at this
    rw [Int.natCast_emod]
    omega
  have st := Eu.step hY h5
  have st2 : Eu a b Y (X % Y) := by
    rcases h10 with ⟨rfl, rfl⟩ | e
    · exact st
    · exact e.tr st
  have dist : ∀ u v w : Int, (u - q * v) * w = u * w - q * (v * w) := fun u v w => by rw [Int.sub_mul, Int.mul_assoc]
  refine ⟨X % Y, h2, ?_, h4, ?_, st.2.1, by omega, ?_, ⟨h8.2.2.1, h8.2.2.2, n1, n2⟩, Or.inr st2, Or.inr st2⟩
  · rw [em, dist, dist, h1, h2, Int.mul_add q]; omega
  · rw [dist, dist, h3, h4, Int.mul_add q]; omega
  · rcases h7 with s | s
    · have m1 : q * C ≤ 0 := Int.mul_nonpos_of_nonneg_of_nonpos (by omega) s.2.2.1
      have m2 : 0 ≤ q * D := Int.mul_nonneg (by omega) s.2.2.2
      exact Or.inr (by omega)
    · have m1 : 0 ≤ q * C := Int.mul_nonneg (by omega) s.2.2.1
      have m2 : q * D ≤ 0 := Int.mul_nonpos_of_nonneg_of_nonpos (by omega) s.2.2.2
      exact Or.inl (by omega)

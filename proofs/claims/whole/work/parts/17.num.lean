/-! numbers by their limbs of 31 bits -/
def sh (a i : Nat) : Nat := a / 2147483648 ^ i
def dg (a i : Nat) : Nat := sh a i % 2147483648
def szn (a : Nat) : Nat := if a = 0 then 0 else Nat.log2 a / 31 + 1
theorem sh_0 (a : Nat) : sh a 0 = a := by simp [sh]
theorem sh_s (a i : Nat) : sh a (i + 1) = sh a i / 2147483648 := by
  unfold sh
  rw [Nat.pow_succ, Nat.div_div_eq_div_mul]
theorem dg_lt (a i : Nat) : dg a i < 2147483648 := Nat.mod_lt _ (by decide)
theorem pB (n : Nat) : 0 < 2147483648 ^ n := Nat.pow_pos (by decide)
theorem szn_le {a n : Nat} : szn a ≤ n ↔ a < 2147483648 ^ n := by
  unfold szn
  split
  · rename_i h
    subst h
    exact ⟨fun _ => pB n, fun _ => Nat.zero_le _⟩
  · rename_i h
    rw [show (2147483648 : Nat) = 2 ^ 31 from rfl, ← Nat.pow_mul, ← Nat.log2_lt h]
    omega
theorem szn_0 : szn 0 = 0 := rfl
theorem szn_eq0 {a : Nat} : szn a = 0 ↔ a = 0 := by
  unfold szn
  split <;> simp_all
theorem sh_out {a j : Nat} (h : szn a ≤ j) : sh a j = 0 := Nat.div_eq_of_lt (szn_le.mp h)
theorem dg_out {a j : Nat} (h : szn a ≤ j) : dg a j = 0 := by unfold dg; rw [sh_out h]
theorem sh_dg (a j : Nat) : sh a j = 2147483648 * sh a (j + 1) + dg a j := by
  rw [sh_s]; unfold dg; omega
theorem sh_lt0 {a j : Nat} (h : sh a j = 0) : a < 2147483648 ^ j := by
  unfold sh at h
  rcases (Nat.div_eq_zero_iff).mp h with q | q
  · have := pB j; omega
  · exact q
theorem dg_top {a : Nat} (h : 0 < szn a) : dg a (szn a - 1) ≠ 0 := by
  intro q
  have h1 := sh_dg a (szn a - 1)
  rw [show szn a - 1 + 1 = szn a by omega, sh_out (Nat.le_refl _), q] at h1
  have h2 := szn_le.mpr (sh_lt0 h1)
  omega
/-- m is where a ends: a fits, and the limb below isn't 0 -/
theorem szn_of {a m : Nat} (h1 : a < 2147483648 ^ m) (h2 : m = 0 ∨ dg a (m - 1) ≠ 0) : szn a = m := by
  have h3 := szn_le.mpr h1
  rcases h2 with q | q
  · omega
  · rcases Nat.lt_or_ge (szn a) m with c | c
    · exact absurd (dg_out (a := a) (j := m - 1) (by omega)) q
    · omega
theorem sh_mono {a b : Nat} (j : Nat) (h : a ≤ b) : sh a j ≤ sh b j := Nat.div_le_div_right h
theorem szn_mono {a b : Nat} (h : a ≤ b) : szn a ≤ szn b := szn_le.mpr (Nat.lt_of_le_of_lt h (szn_le.mp (Nat.le_refl _)))
theorem lt_pow_szn (a : Nat) : a < 2147483648 ^ szn a := szn_le.mp (Nat.le_refl _)
/-- a number is its limbs -/
theorem dg_ext {a b : Nat} (h : ∀ j, dg a j = dg b j) : a = b := by
  have key : ∀ n, ∀ i, szn a ≤ i + n → szn b ≤ i + n → sh a i = sh b i := by
    intro n
    induction n with
    | zero => intro i h1 h2; rw [Nat.add_zero] at h1 h2; rw [sh_out h1, sh_out h2]
    | succ n ih =>
      intro i h1 h2
      rw [sh_dg a i, sh_dg b i, ih (i + 1) (by omega) (by omega), h i]
  have := key (szn a + szn b) 0 (by omega) (by omega)
  rwa [sh_0, sh_0] at this
def cmpN (a b : Nat) : Int := if a < b then -1 else if a = b then 0 else 1
theorem cmpN_lt {a b : Nat} (h : a < b) : cmpN a b = -1 := if_pos h
theorem cmpN_gt {a b : Nat} (h : b < a) : cmpN a b = 1 := by unfold cmpN; rw [if_neg (by omega), if_neg (by omega)]
theorem cmpN_eq (a : Nat) : cmpN a a = 0 := by unfold cmpN; rw [if_neg (by omega), if_pos rfl]
theorem cmpN_r (a b : Nat) : -1 ≤ cmpN a b ∧ cmpN a b ≤ 1 := by unfold cmpN; split <;> (try split) <;> omega
/-- bits -/
def bl (a : Nat) : Nat := if a = 0 then 0 else Nat.log2 a + 1
theorem bl_le {a n : Nat} : bl a ≤ n ↔ a < 2 ^ n := by
  unfold bl
  split
  · rename_i h
    subst h
    exact ⟨fun _ => Nat.two_pow_pos n, fun _ => Nat.zero_le _⟩
  · rename_i h
    rw [← Nat.log2_lt h]
    omega
theorem bl_0 : bl 0 = 0 := rfl
theorem bl_eq0 {a : Nat} : bl a = 0 ↔ a = 0 := by unfold bl; split <;> simp_all
theorem bl_mono {a b : Nat} (h : a ≤ b) : bl a ≤ bl b := bl_le.mpr (Nat.lt_of_le_of_lt h (bl_le.mp (Nat.le_refl _)))
theorem bl_mul (a b : Nat) : bl (a * b) ≤ bl a + bl b := by
  rw [bl_le, Nat.pow_add]
  exact Nat.mul_lt_mul'' (bl_le.mp (Nat.le_refl _)) (bl_le.mp (Nat.le_refl _))
theorem bl_add (a b : Nat) : bl (a + b) ≤ max (bl a) (bl b) + 1 := by
  rw [bl_le, Nat.pow_succ]
  have h1 : a < 2 ^ max (bl a) (bl b) := bl_le.mp (Nat.le_max_left _ _)
  have h2 : b < 2 ^ max (bl a) (bl b) := bl_le.mp (Nat.le_max_right _ _)
  omega
theorem bl_shl {a : Nat} (k : Nat) (h : a ≠ 0) : bl (a * 2 ^ k) = bl a + k := by
  have h2 : a * 2 ^ k ≠ 0 := Nat.mul_ne_zero h (Nat.pos_iff_ne_zero.mp (Nat.two_pow_pos k))
  unfold bl
  rw [if_neg h, if_neg h2]
  have e := Nat.log2_self_le h
  have e2 : a < 2 ^ (a.log2 + 1) := (Nat.log2_lt h).mp (Nat.lt_succ_self _)
  have h3 : (a * 2 ^ k).log2 < a.log2 + 1 + k := (Nat.log2_lt h2).mpr (by rw [Nat.pow_add]; exact Nat.mul_lt_mul_of_pos_right e2 (Nat.two_pow_pos k))
  have h4 : a.log2 + k ≤ (a * 2 ^ k).log2 := (Nat.le_log2 h2).mpr (by rw [Nat.pow_add]; exact Nat.mul_le_mul_right _ e)
  omega
theorem szn_bl (a : Nat) : szn a = (bl a + 30) / 31 := by
  unfold szn bl
  split <;> omega
/-- the limbs' highest gives the bits -/
theorem bl_top {a : Nat} (h : a ≠ 0) : bl a = 31 * (szn a - 1) + bl (dg a (szn a - 1)) := by
  have hz : 0 < szn a := Nat.pos_of_ne_zero fun q => h (szn_eq0.mp q)
  obtain ⟨m, hm⟩ : ∃ m, szn a = m + 1 := ⟨szn a - 1, by omega⟩
  rw [hm, Nat.add_sub_cancel]
  have h1 := sh_dg a m
  rw [sh_out (Nat.le_of_eq hm), Nat.mul_zero, Nat.zero_add] at h1
  rw [← h1]
  have hd : sh a m ≠ 0 := by
    intro q
    have h3 := szn_le.mpr (sh_lt0 q)
    omega
  have e1 : (2147483648 : Nat) ^ m = 2 ^ (31 * m) := by rw [Nat.pow_mul]
  have hlo : sh a m * 2 ^ (31 * m) ≤ a := by
    unfold sh; rw [e1]; exact Nat.div_mul_le_self _ _
  have hhi : a < (sh a m + 1) * 2 ^ (31 * m) := by
    unfold sh; rw [e1, Nat.mul_comm]; exact Nat.lt_mul_div_succ _ (Nat.two_pow_pos _)
  have b1 := bl_mono hlo
  rw [bl_shl _ hd] at b1
  have b2 : bl a ≤ bl (sh a m) + 31 * m := by
    rw [bl_le, Nat.pow_add]
    have h5 : sh a m + 1 ≤ 2 ^ bl (sh a m) := bl_le.mp (Nat.le_refl _)
    exact Nat.lt_of_lt_of_le hhi (Nat.mul_le_mul_right _ h5)
  omega

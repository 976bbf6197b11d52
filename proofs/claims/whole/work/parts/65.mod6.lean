/-! divisor -/
theorem gcd_odd {m v : Nat} (h : v % 2 = 1) : Nat.gcd (2 * m) v = Nat.gcd m v := by
  refine Nat.dvd_antisymm (Nat.dvd_gcd ?_ (Nat.gcd_dvd_right _ _)) (Nat.dvd_gcd (Nat.dvd_trans (Nat.gcd_dvd_left _ _) (Nat.dvd_mul_left _ _)) (Nat.gcd_dvd_right _ _))
  have d1 : Nat.gcd (2 * m) v ∣ 2 * m * (v / 2) := Nat.dvd_trans (Nat.gcd_dvd_left _ _) (Nat.dvd_mul_right _ _)
  have d2 : Nat.gcd (2 * m) v ∣ m * v := Nat.dvd_trans (Nat.gcd_dvd_right _ _) (Nat.dvd_mul_left _ _)
  have e : m * v = 2 * m * (v / 2) + m := by
    rw [Nat.mul_comm 2 m, Nat.mul_assoc, show m * (2 * (v / 2)) + m = m * (2 * (v / 2) + 1) by rw [Nat.mul_add, Nat.mul_one], show 2 * (v / 2) + 1 = v by omega]
  rw [e] at d2
  exact (Nat.dvd_add_right d1).mp d2
theorem gcd_hl {u v : Nat} (hu : u % 2 = 0) (h : v % 2 = 1) : Nat.gcd (u / 2) v = Nat.gcd u v := by
  have := gcd_odd (m := u / 2) h
  rw [show 2 * (u / 2) = u by omega] at this
  exact this.symm
theorem gcd_hr {u v : Nat} (hu : v % 2 = 0) (h : u % 2 = 1) : Nat.gcd u (v / 2) = Nat.gcd u v := by
  rw [Nat.gcd_comm, gcd_hl hu h, Nat.gcd_comm]
theorem gcd_h2 {u v : Nat} (hu : u % 2 = 0) (hv : v % 2 = 0) : 2 * Nat.gcd (u / 2) (v / 2) = Nat.gcd u v := by
  have := Nat.gcd_mul_left 2 (u / 2) (v / 2)
  rw [show 2 * (u / 2) = u by omega, show 2 * (v / 2) = v by omega] at this
  exact this.symm
theorem gcd_mn {u v : Nat} (h : v ≤ u) : Nat.gcd v (u - v) = Nat.gcd u v := by
  refine Nat.dvd_antisymm (Nat.dvd_gcd ?_ (Nat.gcd_dvd_left _ _)) (Nat.dvd_gcd (Nat.gcd_dvd_right _ _) ?_)
  · have := Nat.dvd_add (Nat.gcd_dvd_left v (u - v)) (Nat.gcd_dvd_right v (u - v))
    rwa [show v + (u - v) = u by omega] at this
  · have h1 := Nat.gcd_dvd_left u v
    rw [show Nat.gcd u v ∣ u ↔ Nat.gcd u v ∣ v + (u - v) by rw [show v + (u - v) = u by omega]] at h1
    exact (Nat.dvd_add_right (Nat.gcd_dvd_right u v)).mp h1
theorem m_Mdivisor (l : Launch) (g : am_G) {h : am_H} {wd x y a b : Nat} {R : Nat → Int} (w : rX h wd R) (hx : x < 12) (hy : y < 12) (xy : x ≠ y) (p : rg R x a) (q : rg R y b) (la : a < 32768 ^ wd) (lb : b < 32768 ^ wd) (hb : 0 < b) :
    am_Met l g yX5_divisor (am_W1 yX5_divisor cX5_divisor 7 none) 2 0 0 [.ref 43, vI (x : Int), vI (y : Int)] h (qN fun h1 => ∃ R', h1 = am_up h 44 (eI 1920 R') ∧ rg R' x (Nat.gcd a b) ∧ rF R R' [x, y]) := by
  have w' := w
  obtain ⟨⟨th, us, ro, to, h0⟩, h1, w1, w2⟩ := w
  have G0 : ∀ R' : Nat → Int, (am_up h 44 (eI 1920 R')).2 43 = some (rO th wd us ro to) := fun R' => (am_up_ne h (eI 1920 R') (show 43 ≠ 44 by decide)).trans h0
  have gl : Nat.gcd a b < 32768 ^ wd := Nat.lt_of_le_of_lt (Nat.le_of_dvd hb (Nat.gcd_dvd_right a b)) lb
  refine am_mk [some (.ref 43), some (vI (x : Int)), some (vI (y : Int)), none, none, none, none] 4 rfl rfl (by decide +kernel) (fun z hl hg hC hT _ => ?_)
  by_cases a0 : a = 0
  · subst a0
    refine am_iload1 hC dX5_divisor_0 ?_
    refine am_istore3 hC dX5_divisor_1 rfl ?_
    refine am_iload2 hC dX5_divisor_2 ?_
    refine am_istore4 hC dX5_divisor_3 rfl ?_
    refine am_aload0 hC dX5_divisor_5 ?_
    refine am_iload3 hC dX5_divisor_6 ?_
    refine am_V1_pI hC 5 dX5_divisor_7 kX5_58 (m_MisZero _ _ w' hx p la) h0 rfl (Nat.le_of_ble_eq_true rfl) (by decide) (by omega) (by omega) ?_
    rw [if_pos rfl]
    refine am_if_eq hC 21 dX5_divisor_10 rfl (by omega) (fun c10 => ?_) (fun c10 => ?_)
    · exact absurd c10 (by decide)
    · refine am_aload0 hC dX5_divisor_13 ?_
      refine am_iload3 hC dX5_divisor_14 ?_
      refine am_iload4 hC dX5_divisor_15 ?_
      refine am_V2_qN hC 5 dX5_divisor_17 kX5_62 (m_Mcopy _ _ w' hx hy q) h0 rfl (Nat.le_of_ble_eq_true rfl) (by decide) (by omega) (by omega) (fun h1' rr => ?_)
      obtain ⟨R1, e1, r1, f1⟩ := rr
      exact am_vret hC hT dX5_divisor_20 (by omega) (by omega) ⟨rfl, R1, e1, by rw [Nat.gcd_zero_left]; exact r1, f1.f (by simp)⟩
  have ap : 0 < a := Nat.pos_of_ne_zero a0
  have dbl : ∀ (m k s u X : Nat) (Y : Int) (R' : Nat → Int), k + m = s → (X = x ∨ X = y) → rF R R' [x, y] → rg R' X (u * 2 ^ k) → u * 2 ^ s = Nat.gcd a b → s < 2147483647 → am_W z 144 0 0 (am_up h 44 (eI 1920 R')) [some (.ref 43), some (vI (x : Int)), some (vI (y : Int)), some (vI (X : Int)), some (vI Y), some (vI (s : Int)), some (vI (k : Int))] [] := by
    intro m
    induction m with
    | zero =>
      intro k s u X Y R' hk hX o r1 hg2 hs
      rw [show k = s by omega, hg2] at r1
      have g0 := G0 R'
      refine am_iload6 hC dX5_divisor_144 ?_
      refine am_iload5 hC dX5_divisor_146 ?_
      refine am_icmp_ge hC 162 dX5_divisor_148 rfl (by omega) (by omega) (fun c148 => ?_) (fun c148 => ?_)
      · refine am_iload3 hC dX5_divisor_162 ?_
        refine am_iload1 hC dX5_divisor_163 ?_
        refine am_icmp_eq hC 173 dX5_divisor_164 rfl (by omega) (by omega) (fun c164 => ?_) (fun c164 => ?_)
        · first
            | exact am_vret hC hT dX5_divisor_173 (by omega) (by omega) ⟨rfl, R', rfl, by rw [show x = X by omega]; exact r1, o⟩
            | exact am_vret hC hT dX5_divisor_173 (by omega) (by omega) ⟨rfl, R2, e2, r2, o.tr (f2.f (by simp))⟩
        · refine am_aload0 hC dX5_divisor_167 ?_
          refine am_iload1 hC dX5_divisor_168 ?_
          refine am_iload3 hC dX5_divisor_169 ?_
          refine am_V2_qN hC 5 dX5_divisor_170 kX5_62 (m_Mcopy _ _ (w'.up (R' := R')) hx (by omega) r1) g0 rfl (Nat.le_of_ble_eq_true rfl) (by decide) (by omega) (by omega) (fun h1' rr => ?_)
          obtain ⟨R2, e2, r2, f2⟩ := rr
          rw [am_up_up] at e2
          first
            | exact am_vret hC hT dX5_divisor_173 (by omega) (by omega) ⟨rfl, R', rfl, by rw [show x = X by omega]; exact r1, o⟩
            | exact am_vret hC hT dX5_divisor_173 (by omega) (by omega) ⟨rfl, R2, e2, r2, o.tr (f2.f (by simp))⟩
      · exact absurd c148 (by omega)
    | succ m ih =>
      intro k s u X Y R' hk hX o r1 hg2 hs
      have g0 := G0 R'
      have fit : 2 * (u * 2 ^ k) < 32768 ^ wd := by
        refine Nat.lt_of_le_of_lt ?_ gl
        rw [← hg2, Nat.mul_left_comm, ← Nat.pow_succ']
        exact Nat.mul_le_mul_left _ (Nat.pow_le_pow_right (by decide) (by omega))
      refine am_iload6 hC dX5_divisor_144 ?_
      refine am_iload5 hC dX5_divisor_146 ?_
      refine am_icmp_ge hC 162 dX5_divisor_148 rfl (by omega) (by omega) (fun c148 => ?_) (fun c148 => ?_)
      · exact absurd c148 (by omega)
      · refine am_aload0 hC dX5_divisor_151 ?_
        refine am_iload3 hC dX5_divisor_152 ?_
        refine am_V1_qN hC 5 dX5_divisor_153 kX5_46 (m_Mtwice _ _ (w'.up (R' := R')) (by omega) r1 fit) g0 rfl (Nat.le_of_ble_eq_true rfl) (by decide) (by omega) (by omega) (fun h1' rr => ?_)
        obtain ⟨R2, e2, r2, f2⟩ := rr
        rw [am_up_up] at e2
        subst e2
        refine am_iinc6 hC dX5_divisor_156 rfl ?_
        refine am_goto hC 144 dX5_divisor_159 rfl ?_
        rw [show (k : Int) + 1 = ((k + 1 : Nat) : Int) by omega]
        exact ih (k + 1) s u X Y R2 (by omega) hX (o.tr (f2.f (by rcases hX with e | e <;> simp [e]))) (by rw [Nat.pow_succ', Nat.mul_left_comm]; exact r2) hg2 hs
  have main : ∀ (n s u v X Y : Nat) (y6 : Option Value) (R' : Nat → Int), u + v ≤ n → ((X = x ∧ Y = y) ∨ (X = y ∧ Y = x)) → rF R R' [x, y] → rg R' X u → rg R' Y v → 0 < u → u < 32768 ^ wd → v < 32768 ^ wd → (u % 2 = 1 ∨ v % 2 = 1) → Nat.gcd u v * 2 ^ s = Nat.gcd a b → s < 2147483647 → am_W z 58 0 0 (am_up h 44 (eI 1920 R')) [some (.ref 43), some (vI (x : Int)), some (vI (y : Int)), some (vI (X : Int)), some (vI (Y : Int)), some (vI (s : Int)), y6] [] := by
    intro n
    induction n with
    | zero => intro s u v X Y y6 R' hn hXY o ru rv u0 lu lv od hg2 hs; omega
    | succ n ih =>
      intro s u v X Y y6 R' hn hXY o ru rv u0 lu lv od hg2 hs
      have g0 := G0 R'
      by_cases v0 : v = 0
      · subst v0
        rw [Nat.gcd_zero_right] at hg2
        refine am_aload0 hC dX5_divisor_58 ?_
        refine am_iload4 hC dX5_divisor_59 ?_
        refine am_V1_pI hC 5 dX5_divisor_61 kX5_58 (m_MisZero _ _ (w'.up (R' := R')) (by omega) rv lv) g0 rfl (Nat.le_of_ble_eq_true rfl) (by decide) (by omega) (by omega) ?_
        rw [if_pos rfl]
        refine am_if_ne hC 141 dX5_divisor_64 rfl (by omega) (fun c64 => ?_) (fun c64 => ?_)
        · refine am_iconst hC dX5_divisor_141 ?_
          refine am_istore6 hC dX5_divisor_142 rfl ?_
          exact dbl s 0 s u X _ R' (Nat.zero_add _) (by omega) o (by rw [Nat.pow_zero, Nat.mul_one]; exact ru) hg2 hs
        · exact absurd c64 (by decide)
      have sub : ∀ (u v : Nat) (R' : Nat → Int), u + v ≤ n + 1 → rF R R' [x, y] → rg R' X u → rg R' Y v → u < 32768 ^ wd → v < 32768 ^ wd → 0 < v → u % 2 = 1 → v % 2 = 1 → Nat.gcd u v * 2 ^ s = Nat.gcd a b → am_W z 101 0 0 (am_up h 44 (eI 1920 R')) [some (.ref 43), some (vI (x : Int)), some (vI (y : Int)), some (vI (X : Int)), some (vI (Y : Int)), some (vI (s : Int)), y6] [] := by
        intro u v R' hn o ru rv lu lv v0 uo vo hg2
        have g0 := G0 R'
        have cs := cmpN_s u v
        refine am_aload0 hC dX5_divisor_101 ?_
        refine am_iload3 hC dX5_divisor_102 ?_
        refine am_iload4 hC dX5_divisor_103 ?_
        refine am_V2_pI hC 5 dX5_divisor_105 kX5_50 (m_Mcompare _ _ (w'.up (R' := R')) (by omega) (by omega) ru rv lu lv) g0 rfl (Nat.le_of_ble_eq_true rfl) (by decide) (by omega) (by omega) ?_
        refine am_if_le hC 131 dX5_divisor_108 rfl (by omega) (fun c108 => ?_) (fun c108 => ?_)
        · refine am_aload0 hC dX5_divisor_131 ?_
          refine am_iload4 hC dX5_divisor_132 ?_
          refine am_iload3 hC dX5_divisor_134 ?_
          refine am_V2_qN hC 5 dX5_divisor_135 kX5_54 (m_Mminus _ _ (w'.up (R' := R')) (by omega) (by omega) (by omega) rv ru (by omega) lv) g0 rfl (Nat.le_of_ble_eq_true rfl) (by decide) (by omega) (by omega) (fun h1' rr => ?_)
          obtain ⟨R2, e2, r2, f2⟩ := rr
          rw [am_up_up] at e2
          subst e2
          refine am_goto hC 58 dX5_divisor_138 rfl ?_
          first
            | exact ih s v (u - v) Y X _ R2 (by omega) (by omega) (o.tr (f2.f (by rcases hXY with e | e <;> simp [e.1]))) (rv.kept f2 (by omega)) r2 (by omega) (by omega) (by omega) (by omega) (by rw [gcd_mn (by omega)]; exact hg2) hs
            | exact ih s u (v - u) X Y _ R2 (by omega) hXY (o.tr (f2.f (by rcases hXY with e | e <;> simp [e.2]))) (ru.kept f2 (by omega)) r2 (by omega) (by omega) (by omega) (by omega) (by rw [gcd_mn (by omega), Nat.gcd_comm]; exact hg2) hs
        · refine am_aload0 hC dX5_divisor_111 ?_
          refine am_iload3 hC dX5_divisor_112 ?_
          refine am_iload4 hC dX5_divisor_113 ?_
          refine am_V2_qN hC 5 dX5_divisor_115 kX5_54 (m_Mminus _ _ (w'.up (R' := R')) (by omega) (by omega) (by omega) ru rv (by omega) lu) g0 rfl (Nat.le_of_ble_eq_true rfl) (by decide) (by omega) (by omega) (fun h1' rr => ?_)
          obtain ⟨R2, e2, r2, f2⟩ := rr
          rw [am_up_up] at e2
          subst e2
          refine am_iload3 hC dX5_divisor_118 ?_
          refine am_istore6 hC dX5_divisor_119 rfl ?_
          refine am_iload4 hC dX5_divisor_121 ?_
          refine am_istore3 hC dX5_divisor_123 rfl ?_
          refine am_iload6 hC dX5_divisor_124 ?_
          refine am_istore4 hC dX5_divisor_126 rfl ?_
          refine am_goto hC 58 dX5_divisor_128 rfl ?_
          first
            | exact ih s v (u - v) Y X _ R2 (by omega) (by omega) (o.tr (f2.f (by rcases hXY with e | e <;> simp [e.1]))) (rv.kept f2 (by omega)) r2 (by omega) (by omega) (by omega) (by omega) (by rw [gcd_mn (by omega)]; exact hg2) hs
            | exact ih s u (v - u) X Y _ R2 (by omega) hXY (o.tr (f2.f (by rcases hXY with e | e <;> simp [e.2]))) (ru.kept f2 (by omega)) r2 (by omega) (by omega) (by omega) (by omega) (by rw [gcd_mn (by omega), Nat.gcd_comm]; exact hg2) hs
      have evy : ∀ (k u v : Nat) (R' : Nat → Int), v ≤ k → u + v ≤ n + 1 → rF R R' [x, y] → rg R' X u → rg R' Y v → u < 32768 ^ wd → v < 32768 ^ wd → 0 < v → u % 2 = 1 → Nat.gcd u v * 2 ^ s = Nat.gcd a b → am_W z 83 0 0 (am_up h 44 (eI 1920 R')) [some (.ref 43), some (vI (x : Int)), some (vI (y : Int)), some (vI (X : Int)), some (vI (Y : Int)), some (vI (s : Int)), y6] [] := by
        intro k
        induction k with
        | zero => intro u v R' hk hn o ru rv lu lv v0 uo hg2; omega
        | succ k ihk =>
          intro u v R' hk hn o ru rv lu lv v0 uo hg2
          have g0 := G0 R'
          by_cases ev : v % 2 = 0
          · refine am_aload0 hC dX5_divisor_83 ?_
            refine am_iload4 hC dX5_divisor_84 ?_
            refine am_V1_pI hC 5 dX5_divisor_86 kX5_65 (m_MisEven _ _ (w'.up (R' := R')) (by omega) rv) g0 rfl (Nat.le_of_ble_eq_true rfl) (by decide) (by omega) (by omega) ?_
            rw [if_pos ev]
            refine am_if_eq hC 101 dX5_divisor_89 rfl (by omega) (fun c89 => ?_) (fun c89 => ?_)
            · exact absurd c89 (by decide)
            · refine am_aload0 hC dX5_divisor_92 ?_
              refine am_iload4 hC dX5_divisor_93 ?_
              refine am_V1_qN hC 5 dX5_divisor_95 kX5_68 (m_Mhalf _ _ (w'.up (R' := R')) (by omega) rv lv) g0 rfl (Nat.le_of_ble_eq_true rfl) (by decide) (by omega) (by omega) (fun h1' rr => ?_)
              obtain ⟨R2, e2, r2, f2⟩ := rr
              rw [am_up_up] at e2
              subst e2
              refine am_goto hC 83 dX5_divisor_98 rfl ?_
              exact ihk u (v / 2) R2 (by omega) (by omega) (o.tr (f2.f (by rcases hXY with e | e <;> simp [e.2]))) (ru.kept f2 (by omega)) r2 lu (by omega) (by omega) uo (by rw [gcd_hr ev uo]; exact hg2)
          · refine am_aload0 hC dX5_divisor_83 ?_
            refine am_iload4 hC dX5_divisor_84 ?_
            refine am_V1_pI hC 5 dX5_divisor_86 kX5_65 (m_MisEven _ _ (w'.up (R' := R')) (by omega) rv) g0 rfl (Nat.le_of_ble_eq_true rfl) (by decide) (by omega) (by omega) ?_
            rw [if_neg ev]
            refine am_if_eq hC 101 dX5_divisor_89 rfl (by omega) (fun c89 => ?_) (fun c89 => ?_)
            · exact sub u v R' hn o ru rv lu lv v0 uo (by omega) hg2
            · exact absurd rfl c89
      have evx : ∀ (k u : Nat) (R' : Nat → Int), u ≤ k → u + v ≤ n + 1 → rF R R' [x, y] → rg R' X u → rg R' Y v → 0 < u → u < 32768 ^ wd → (u % 2 = 1 ∨ v % 2 = 1) → Nat.gcd u v * 2 ^ s = Nat.gcd a b → am_W z 67 0 0 (am_up h 44 (eI 1920 R')) [some (.ref 43), some (vI (x : Int)), some (vI (y : Int)), some (vI (X : Int)), some (vI (Y : Int)), some (vI (s : Int)), y6] [] := by
        intro k
        induction k with
        | zero => intro u R' hk hn o ru rv u0 lu od hg2; omega
        | succ k ihk =>
          intro u R' hk hn o ru rv u0 lu od hg2
          have g0 := G0 R'
          by_cases ev : u % 2 = 0
          · refine am_aload0 hC dX5_divisor_67 ?_
            refine am_iload3 hC dX5_divisor_68 ?_
            refine am_V1_pI hC 5 dX5_divisor_69 kX5_65 (m_MisEven _ _ (w'.up (R' := R')) (by omega) ru) g0 rfl (Nat.le_of_ble_eq_true rfl) (by decide) (by omega) (by omega) ?_
            rw [if_pos ev]
            refine am_if_eq hC 83 dX5_divisor_72 rfl (by omega) (fun c72 => ?_) (fun c72 => ?_)
            · exact absurd c72 (by decide)
            · refine am_aload0 hC dX5_divisor_75 ?_
              refine am_iload3 hC dX5_divisor_76 ?_
              refine am_V1_qN hC 5 dX5_divisor_77 kX5_68 (m_Mhalf _ _ (w'.up (R' := R')) (by omega) ru lu) g0 rfl (Nat.le_of_ble_eq_true rfl) (by decide) (by omega) (by omega) (fun h1' rr => ?_)
              obtain ⟨R2, e2, r2, f2⟩ := rr
              rw [am_up_up] at e2
              subst e2
              refine am_goto hC 67 dX5_divisor_80 rfl ?_
              exact ihk (u / 2) R2 (by omega) (by omega) (o.tr (f2.f (by rcases hXY with e | e <;> simp [e.1]))) r2 (rv.kept f2 (by omega)) (by omega) (by omega) (by omega) (by rw [gcd_hl ev (by omega)]; exact hg2)
          · refine am_aload0 hC dX5_divisor_67 ?_
            refine am_iload3 hC dX5_divisor_68 ?_
            refine am_V1_pI hC 5 dX5_divisor_69 kX5_65 (m_MisEven _ _ (w'.up (R' := R')) (by omega) ru) g0 rfl (Nat.le_of_ble_eq_true rfl) (by decide) (by omega) (by omega) ?_
            rw [if_neg ev]
            refine am_if_eq hC 83 dX5_divisor_72 rfl (by omega) (fun c72 => ?_) (fun c72 => ?_)
            · exact evy v u v R' (Nat.le_refl _) hn o ru rv lu lv (by omega) (by omega) hg2
            · exact absurd rfl c72
      refine am_aload0 hC dX5_divisor_58 ?_
      refine am_iload4 hC dX5_divisor_59 ?_
      refine am_V1_pI hC 5 dX5_divisor_61 kX5_58 (m_MisZero _ _ (w'.up (R' := R')) (by omega) rv lv) g0 rfl (Nat.le_of_ble_eq_true rfl) (by decide) (by omega) (by omega) ?_
      rw [if_neg v0]
      refine am_if_ne hC 141 dX5_divisor_64 rfl (by omega) (fun c64 => ?_) (fun c64 => ?_)
      · exact absurd rfl c64
      · exact evx u u R' (Nat.le_refl _) hn o ru rv u0 lu od hg2
  have both : ∀ (n s u v : Nat) (R' : Nat → Int), u ≤ n → rF R R' [x, y] → rg R' x u → rg R' y v → 0 < u → 0 < v → u < 32768 ^ wd → v < 32768 ^ wd → Nat.gcd u v * 2 ^ s = Nat.gcd a b → s + bl u ≤ 3000 → am_W z 24 0 0 (am_up h 44 (eI 1920 R')) [some (.ref 43), some (vI (x : Int)), some (vI (y : Int)), some (vI (x : Int)), some (vI (y : Int)), some (vI (s : Int)), none] [] := by
    intro n
    induction n with
    | zero => intro s u v R' hn o ru rv u0 v0 lu lv hg2 hs; omega
    | succ n ih =>
      intro s u v R' hn o ru rv u0 v0 lu lv hg2 hs
      have g0 := G0 R'
      by_cases ev : u % 2 = 0
      · by_cases ew : v % 2 = 0
        · have b2 : bl (u / 2) + 1 ≤ bl u := by
            have h1 : u < 2 ^ bl u := bl_le.mp (Nat.le_refl _)
            have h2 : 0 < bl u := by
              rcases Nat.eq_zero_or_pos (bl u) with c | c
              · rw [c] at h1; omega
              · exact c
            have h3 : bl (u / 2) ≤ bl u - 1 := bl_le.mpr (by
              rw [show bl u = bl u - 1 + 1 by omega, Nat.pow_succ] at h1; omega)
            omega
          refine am_aload0 hC dX5_divisor_24 ?_
          refine am_iload3 hC dX5_divisor_25 ?_
          refine am_V1_pI hC 5 dX5_divisor_26 kX5_65 (m_MisEven _ _ (w'.up (R' := R')) hx ru) g0 rfl (Nat.le_of_ble_eq_true rfl) (by decide) (by omega) (by omega) ?_
          rw [if_pos ev]
          refine am_if_eq hC 58 dX5_divisor_29 rfl (by omega) (fun c29 => ?_) (fun c29 => ?_)
          · exact absurd c29 (by decide)
          · refine am_aload0 hC dX5_divisor_32 ?_
            refine am_iload4 hC dX5_divisor_33 ?_
            refine am_V1_pI hC 5 dX5_divisor_35 kX5_65 (m_MisEven _ _ (w'.up (R' := R')) hy rv) g0 rfl (Nat.le_of_ble_eq_true rfl) (by decide) (by omega) (by omega) ?_
            rw [if_pos ew]
            refine am_if_eq hC 58 dX5_divisor_38 rfl (by omega) (fun c38 => ?_) (fun c38 => ?_)
            · exact absurd c38 (by decide)
            · refine am_aload0 hC dX5_divisor_41 ?_
              refine am_iload3 hC dX5_divisor_42 ?_
              refine am_V1_qN hC 5 dX5_divisor_43 kX5_68 (m_Mhalf _ _ (w'.up (R' := R')) hx ru lu) g0 rfl (Nat.le_of_ble_eq_true rfl) (by decide) (by omega) (by omega) (fun h1' rr => ?_)
              obtain ⟨R2, e2, r2, f2⟩ := rr
              rw [am_up_up] at e2
              subst e2
              have g02 := G0 R2
              have rv2 := rv.kept f2 (Ne.symm xy)
              refine am_aload0 hC dX5_divisor_46 ?_
              refine am_iload4 hC dX5_divisor_47 ?_
              refine am_V1_qN hC 5 dX5_divisor_49 kX5_68 (m_Mhalf _ _ (w'.up (R' := R2)) hy rv2 lv) g02 rfl (Nat.le_of_ble_eq_true rfl) (by decide) (by omega) (by omega) (fun h1' rr => ?_)
              obtain ⟨R3, e3, r3, f3⟩ := rr
              rw [am_up_up] at e3
              subst e3
              refine am_iinc5 hC dX5_divisor_52 rfl ?_
              refine am_goto hC 24 dX5_divisor_55 rfl ?_
              rw [show (s : Int) + 1 = ((s + 1 : Nat) : Int) by omega]
              exact ih (s + 1) (u / 2) (v / 2) R3 (by omega) (o.tr ((f2.f (by simp)).tr (f3.f (by simp)))) (r2.kept f3 xy) r3 (by omega) (by omega) (by omega) (by omega) (by rw [Nat.pow_succ', ← Nat.mul_assoc, Nat.mul_comm _ 2, gcd_h2 ev ew]; exact hg2) (by omega)
        · refine am_aload0 hC dX5_divisor_24 ?_
          refine am_iload3 hC dX5_divisor_25 ?_
          refine am_V1_pI hC 5 dX5_divisor_26 kX5_65 (m_MisEven _ _ (w'.up (R' := R')) hx ru) g0 rfl (Nat.le_of_ble_eq_true rfl) (by decide) (by omega) (by omega) ?_
          rw [if_pos ev]
          refine am_if_eq hC 58 dX5_divisor_29 rfl (by omega) (fun c29 => ?_) (fun c29 => ?_)
          · exact absurd c29 (by decide)
          · refine am_aload0 hC dX5_divisor_32 ?_
            refine am_iload4 hC dX5_divisor_33 ?_
            refine am_V1_pI hC 5 dX5_divisor_35 kX5_65 (m_MisEven _ _ (w'.up (R' := R')) hy rv) g0 rfl (Nat.le_of_ble_eq_true rfl) (by decide) (by omega) (by omega) ?_
            rw [if_neg ew]
            refine am_if_eq hC 58 dX5_divisor_38 rfl (by omega) (fun c38 => ?_) (fun c38 => ?_)
            · exact main (u + v) s u v x y _ R' (Nat.le_refl _) (Or.inl ⟨rfl, rfl⟩) o ru rv u0 lu lv (by omega) hg2 (by omega)
            · exact absurd rfl c38
      · refine am_aload0 hC dX5_divisor_24 ?_
        refine am_iload3 hC dX5_divisor_25 ?_
        refine am_V1_pI hC 5 dX5_divisor_26 kX5_65 (m_MisEven _ _ (w'.up (R' := R')) hx ru) g0 rfl (Nat.le_of_ble_eq_true rfl) (by decide) (by omega) (by omega) ?_
        rw [if_neg ev]
        refine am_if_eq hC 58 dX5_divisor_29 rfl (by omega) (fun c29 => ?_) (fun c29 => ?_)
        · exact main (u + v) s u v x y _ R' (Nat.le_refl _) (Or.inl ⟨rfl, rfl⟩) o ru rv u0 lu lv (by omega) hg2 (by omega)
        · exact absurd rfl c29
  have ba : bl a ≤ 15 * wd := bl_le.mpr (by rw [← B15]; exact la)
  refine am_iload1 hC dX5_divisor_0 ?_
  refine am_istore3 hC dX5_divisor_1 rfl ?_
  refine am_iload2 hC dX5_divisor_2 ?_
  refine am_istore4 hC dX5_divisor_3 rfl ?_
  refine am_aload0 hC dX5_divisor_5 ?_
  refine am_iload3 hC dX5_divisor_6 ?_
  refine am_V1_pI hC 5 dX5_divisor_7 kX5_58 (m_MisZero _ _ w' hx p la) h0 rfl (Nat.le_of_ble_eq_true rfl) (by decide) (by omega) (by omega) ?_
  rw [if_neg a0]
  refine am_if_eq hC 21 dX5_divisor_10 rfl (by omega) (fun c10 => ?_) (fun c10 => ?_)
  · refine am_iconst hC dX5_divisor_21 ?_
    refine am_istore5 hC dX5_divisor_22 rfl ?_
    have := both a 0 a b R (Nat.le_refl _) (rF.rf _ _) p q ap hb la lb (by rw [Nat.pow_zero, Nat.mul_one]) (by omega)
    rw [am_up_self h1] at this
    exact this
  · exact absurd rfl c10

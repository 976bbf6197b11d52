theorem am_t32 {a : Int} (h : -2147483648 ≤ a ∧ a ≤ 2147483647) : (Int32.ofInt a).toInt = a := Int32.toInt_ofInt_of_le (by omega) (by omega)
theorem am_t64 {a : Int} (h : -9223372036854775808 ≤ a ∧ a ≤ 9223372036854775807) : (Int64.ofInt a).toInt = a := Int64.toInt_ofInt_of_le (by omega) (by omega)
theorem am_lt32 {a b : Int} (ha : -2147483648 ≤ a ∧ a ≤ 2147483647) (hb : -2147483648 ≤ b ∧ b ≤ 2147483647) : Int32.ofInt a < Int32.ofInt b ↔ a < b := by rw [Int32.lt_iff_toInt_lt, am_t32 ha, am_t32 hb]
theorem am_le32 {a b : Int} (ha : -2147483648 ≤ a ∧ a ≤ 2147483647) (hb : -2147483648 ≤ b ∧ b ≤ 2147483647) : Int32.ofInt a ≤ Int32.ofInt b ↔ a ≤ b := by rw [Int32.le_iff_toInt_le, am_t32 ha, am_t32 hb]
theorem am_eq32 {a b : Int} (ha : -2147483648 ≤ a ∧ a ≤ 2147483647) (hb : -2147483648 ≤ b ∧ b ≤ 2147483647) : Int32.ofInt a = Int32.ofInt b ↔ a = b := by rw [← Int32.toInt_inj, am_t32 ha, am_t32 hb]
theorem am_lt64 {a b : Int} (ha : -9223372036854775808 ≤ a ∧ a ≤ 9223372036854775807) (hb : -9223372036854775808 ≤ b ∧ b ≤ 9223372036854775807) : Int64.ofInt a < Int64.ofInt b ↔ a < b := by rw [Int64.lt_iff_toInt_lt, am_t64 ha, am_t64 hb]
theorem am_eq64 {a b : Int} (ha : -9223372036854775808 ≤ a ∧ a ≤ 9223372036854775807) (hb : -9223372036854775808 ≤ b ∧ b ≤ 9223372036854775807) : Int64.ofInt a = Int64.ofInt b ↔ a = b := by rw [← Int64.toInt_inj, am_t64 ha, am_t64 hb]
theorem am_z32 : (0 : Int32) = Int32.ofInt 0 := rfl
theorem am_mn32 {a : Int} (h : -2147483648 ≤ a ∧ a ≤ 2147483647) : Int32.minValue.toInt ≤ a := h.1
theorem am_mx32 {a : Int} (h : -2147483648 ≤ a ∧ a ≤ 2147483647) : a ≤ Int32.maxValue.toInt := h.2
theorem am_mn64 {a : Int} (h : -9223372036854775808 ≤ a ∧ a ≤ 9223372036854775807) : Int64.minValue.toInt ≤ a := h.1
theorem am_mx64 {a : Int} (h : -9223372036854775808 ≤ a ∧ a ≤ 9223372036854775807) : a ≤ Int64.maxValue.toInt := h.2
theorem am_cl32 {a : Int} (h : 0 ≤ a ∧ a ≤ 2147483647) : (Int32.ofInt a).toNatClampNeg = a.toNat := by
  show (Int32.ofInt a).toInt.toNat = _
  rw [am_t32 (by omega)]
theorem am_in32 {a : Int} {N : Nat} (h : 0 ≤ a ∧ a < N) (hN : N ≤ 2147483647) : vp_in (Int32.ofInt a) N := by
  rw [vp_in_iff, am_t32 (by omega)]; exact h

theorem am_iconst {x : am_X} {cc : ByteArray} {own : String} {n mc ms : Nat} (hC : am_C x cc own n mc ms) {pc k z : Nat} {h : am_H} {ls : List (Option Value)} {st : List Value} {v : Int} (d : decode cc pc = .ok (.iconst v, 1)) (kk : am_W x (pc + 1) k z h ls (vI v :: st)) : am_W x (pc) k z h ls (st) := by
  obtain ⟨p, l, e, R, s, m, args, below, meth, c, Q, g, nL⟩ := x
  obtain ⟨hx, hb, hml, hown, hts, hI, hlk, hR⟩ := hC
  intro H locs la hH hS hL
  exact lv_iconst hx hb d rfl (kk H locs la hH hS hL)

theorem am_bipush {x : am_X} {cc : ByteArray} {own : String} {n mc ms : Nat} (hC : am_C x cc own n mc ms) {pc k z : Nat} {h : am_H} {ls : List (Option Value)} {st : List Value} {v : Int} (d : decode cc pc = .ok (.bipush v, 2)) (hv : (Int8.ofInt v).toInt32 = Int32.ofInt v) (kk : am_W x (pc + 2) k z h ls (vI v :: st)) : am_W x (pc) k z h ls (st) := by
  obtain ⟨p, l, e, R, s, m, args, below, meth, c, Q, g, nL⟩ := x
  obtain ⟨hx, hb, hml, hown, hts, hI, hlk, hR⟩ := hC
  intro H locs la hH hS hL
  exact lv_bipush hx hb d hv (kk H locs la hH hS hL)

theorem am_sipush {x : am_X} {cc : ByteArray} {own : String} {n mc ms : Nat} (hC : am_C x cc own n mc ms) {pc k z : Nat} {h : am_H} {ls : List (Option Value)} {st : List Value} {v : Int} (d : decode cc pc = .ok (.sipush v, 3)) (hv : (Int16.ofInt v).toInt32 = Int32.ofInt v) (kk : am_W x (pc + 3) k z h ls (vI v :: st)) : am_W x (pc) k z h ls (st) := by
  obtain ⟨p, l, e, R, s, m, args, below, meth, c, Q, g, nL⟩ := x
  obtain ⟨hx, hb, hml, hown, hts, hI, hlk, hR⟩ := hC
  intro H locs la hH hS hL
  exact lv_sipush hx hb d hv (kk H locs la hH hS hL)

theorem am_lconst0 {x : am_X} {cc : ByteArray} {own : String} {n mc ms : Nat} (hC : am_C x cc own n mc ms) {pc k z : Nat} {h : am_H} {ls : List (Option Value)} {st : List Value}  (d : decode cc pc = .ok (.lconst 0, 1)) (kk : am_W x (pc + 1) k z h ls (vL 0 :: st)) : am_W x (pc) k z h ls (st) := by
  obtain ⟨p, l, e, R, s, m, args, below, meth, c, Q, g, nL⟩ := x
  obtain ⟨hx, hb, hml, hown, hts, hI, hlk, hR⟩ := hC
  intro H locs la hH hS hL
  exact lv_lconst hx hb d rfl (kk H locs la hH hS hL)

theorem am_lconst1 {x : am_X} {cc : ByteArray} {own : String} {n mc ms : Nat} (hC : am_C x cc own n mc ms) {pc k z : Nat} {h : am_H} {ls : List (Option Value)} {st : List Value}  (d : decode cc pc = .ok (.lconst 1, 1)) (kk : am_W x (pc + 1) k z h ls (vL 1 :: st)) : am_W x (pc) k z h ls (st) := by
  obtain ⟨p, l, e, R, s, m, args, below, meth, c, Q, g, nL⟩ := x
  obtain ⟨hx, hb, hml, hown, hts, hI, hlk, hR⟩ := hC
  intro H locs la hH hS hL
  exact lv_lconst hx hb d rfl (kk H locs la hH hS hL)

theorem am_ldc2 {x : am_X} {cc : ByteArray} {own : String} {n mc ms : Nat} (hC : am_C x cc own n mc ms) {pc k z : Nat} {h : am_H} {ls : List (Option Value)} {st : List Value} {idx : Nat} {u : Int64} (v : Int) (d : decode cc pc = .ok (.ldc2_w idx, 3)) (hw : Cond.constantLong own idx u ∈ am_ws) (hv : u = Int64.ofInt v) (kk : am_W x (pc + 3) k z h ls (vL v :: st)) : am_W x (pc) k z h ls (st) := by
  obtain ⟨p, l, e, R, s, m, args, below, meth, c, Q, g, nL⟩ := x
  obtain ⟨hx, hb, hml, hown, hts, hI, hlk, hR⟩ := hC
  intro H locs la hH hS hL
  subst hv
  exact lv_ldc2 hx hb hown (hts _ hw) d (kk H locs la hH hS hL)

theorem am_ldc {x : am_X} {cc : ByteArray} {own : String} {n mc ms : Nat} (hC : am_C x cc own n mc ms) {pc k z : Nat} {h : am_H} {ls : List (Option Value)} {st : List Value} {idx : Nat} {u : Int32} (v : Int) (d : decode cc pc = .ok (.ldc idx, 2)) (hw : Cond.constant own idx u ∈ am_ws) (hv : u = Int32.ofInt v) (kk : am_W x (pc + 2) k z h ls (vI v :: st)) : am_W x (pc) k z h ls (st) := by
  obtain ⟨p, l, e, R, s, m, args, below, meth, c, Q, g, nL⟩ := x
  obtain ⟨hx, hb, hml, hown, hts, hI, hlk, hR⟩ := hC
  intro H locs la hH hS hL
  subst hv
  exact lv_ldc hx hb hown (hts _ hw) d (kk H locs la hH hS hL)

theorem am_ldcw {x : am_X} {cc : ByteArray} {own : String} {n mc ms : Nat} (hC : am_C x cc own n mc ms) {pc k z : Nat} {h : am_H} {ls : List (Option Value)} {st : List Value} {idx : Nat} {u : Int32} (v : Int) (d : decode cc pc = .ok (.ldc_w idx, 3)) (hw : Cond.constant own idx u ∈ am_ws) (hv : u = Int32.ofInt v) (kk : am_W x (pc + 3) k z h ls (vI v :: st)) : am_W x (pc) k z h ls (st) := by
  obtain ⟨p, l, e, R, s, m, args, below, meth, c, Q, g, nL⟩ := x
  obtain ⟨hx, hb, hml, hown, hts, hI, hlk, hR⟩ := hC
  intro H locs la hH hS hL
  subst hv
  exact lv_ldcw hx hb hown (hts _ hw) d (kk H locs la hH hS hL)

theorem am_null {x : am_X} {cc : ByteArray} {own : String} {n mc ms : Nat} (hC : am_C x cc own n mc ms) {pc k z : Nat} {h : am_H} {ls : List (Option Value)} {st : List Value}  (d : decode cc pc = .ok (.aconst_null, 1)) (kk : am_W x (pc + 1) k z h ls (Value.null :: st)) : am_W x (pc) k z h ls (st) := by
  obtain ⟨p, l, e, R, s, m, args, below, meth, c, Q, g, nL⟩ := x
  obtain ⟨hx, hb, hml, hown, hts, hI, hlk, hR⟩ := hC
  intro H locs la hH hS hL
  exact lv_null hx hb d (kk H locs la hH hS hL)

theorem am_iload0 {x : am_X} {cc : ByteArray} {own : String} {n mc ms : Nat} (hC : am_C x cc own n mc ms) {pc k z : Nat} {h : am_H} {st : List Value} {tl : List (Option Value)} {v : Int} (d : decode cc pc = .ok (.iload_n 0, 1)) (kk : am_W x (pc + 1) k z h (some (vI v) :: tl) (vI v :: st)) : am_W x (pc) k z h (some (vI v) :: tl) (st) := by
  obtain ⟨p, l, e, R, s, m, args, below, meth, c, Q, g, nL⟩ := x
  obtain ⟨hx, hb, hml, hown, hts, hI, hlk, hR⟩ := hC
  intro H locs la hH hS hL
  exact lv_iload_n hx hb d rfl (hL.2.2 0 _ rfl) (kk H locs la hH hS hL)

theorem am_lload0 {x : am_X} {cc : ByteArray} {own : String} {n mc ms : Nat} (hC : am_C x cc own n mc ms) {pc k z : Nat} {h : am_H} {st : List Value} {tl : List (Option Value)} {v : Int} (d : decode cc pc = .ok (.lload_n 0, 1)) (kk : am_W x (pc + 1) k z h (some (vL v) :: tl) (vL v :: st)) : am_W x (pc) k z h (some (vL v) :: tl) (st) := by
  obtain ⟨p, l, e, R, s, m, args, below, meth, c, Q, g, nL⟩ := x
  obtain ⟨hx, hb, hml, hown, hts, hI, hlk, hR⟩ := hC
  intro H locs la hH hS hL
  exact lv_lload_n hx hb d rfl (hL.2.2 0 _ rfl) (kk H locs la hH hS hL)

theorem am_aload0 {x : am_X} {cc : ByteArray} {own : String} {n mc ms : Nat} (hC : am_C x cc own n mc ms) {pc k z : Nat} {h : am_H} {st : List Value} {tl : List (Option Value)} {v : Nat} (d : decode cc pc = .ok (.aload_n 0, 1)) (kk : am_W x (pc + 1) k z h (some (Value.ref v) :: tl) (Value.ref v :: st)) : am_W x (pc) k z h (some (Value.ref v) :: tl) (st) := by
  obtain ⟨p, l, e, R, s, m, args, below, meth, c, Q, g, nL⟩ := x
  obtain ⟨hx, hb, hml, hown, hts, hI, hlk, hR⟩ := hC
  intro H locs la hH hS hL
  exact lv_aload_n hx hb d rfl (hL.2.2 0 _ rfl) (kk H locs la hH hS hL)

theorem am_iload1 {x : am_X} {cc : ByteArray} {own : String} {n mc ms : Nat} (hC : am_C x cc own n mc ms) {pc k z : Nat} {h : am_H} {st : List Value} {y0 : Option Value} {tl : List (Option Value)} {v : Int} (d : decode cc pc = .ok (.iload_n 1, 1)) (kk : am_W x (pc + 1) k z h (y0 :: some (vI v) :: tl) (vI v :: st)) : am_W x (pc) k z h (y0 :: some (vI v) :: tl) (st) := by
  obtain ⟨p, l, e, R, s, m, args, below, meth, c, Q, g, nL⟩ := x
  obtain ⟨hx, hb, hml, hown, hts, hI, hlk, hR⟩ := hC
  intro H locs la hH hS hL
  exact lv_iload_n hx hb d rfl (hL.2.2 1 _ rfl) (kk H locs la hH hS hL)

theorem am_lload1 {x : am_X} {cc : ByteArray} {own : String} {n mc ms : Nat} (hC : am_C x cc own n mc ms) {pc k z : Nat} {h : am_H} {st : List Value} {y0 : Option Value} {tl : List (Option Value)} {v : Int} (d : decode cc pc = .ok (.lload_n 1, 1)) (kk : am_W x (pc + 1) k z h (y0 :: some (vL v) :: tl) (vL v :: st)) : am_W x (pc) k z h (y0 :: some (vL v) :: tl) (st) := by
  obtain ⟨p, l, e, R, s, m, args, below, meth, c, Q, g, nL⟩ := x
  obtain ⟨hx, hb, hml, hown, hts, hI, hlk, hR⟩ := hC
  intro H locs la hH hS hL
  exact lv_lload_n hx hb d rfl (hL.2.2 1 _ rfl) (kk H locs la hH hS hL)

theorem am_aload1 {x : am_X} {cc : ByteArray} {own : String} {n mc ms : Nat} (hC : am_C x cc own n mc ms) {pc k z : Nat} {h : am_H} {st : List Value} {y0 : Option Value} {tl : List (Option Value)} {v : Nat} (d : decode cc pc = .ok (.aload_n 1, 1)) (kk : am_W x (pc + 1) k z h (y0 :: some (Value.ref v) :: tl) (Value.ref v :: st)) : am_W x (pc) k z h (y0 :: some (Value.ref v) :: tl) (st) := by
  obtain ⟨p, l, e, R, s, m, args, below, meth, c, Q, g, nL⟩ := x
  obtain ⟨hx, hb, hml, hown, hts, hI, hlk, hR⟩ := hC
  intro H locs la hH hS hL
  exact lv_aload_n hx hb d rfl (hL.2.2 1 _ rfl) (kk H locs la hH hS hL)

theorem am_iload2 {x : am_X} {cc : ByteArray} {own : String} {n mc ms : Nat} (hC : am_C x cc own n mc ms) {pc k z : Nat} {h : am_H} {st : List Value} {y0 y1 : Option Value} {tl : List (Option Value)} {v : Int} (d : decode cc pc = .ok (.iload_n 2, 1)) (kk : am_W x (pc + 1) k z h (y0 :: y1 :: some (vI v) :: tl) (vI v :: st)) : am_W x (pc) k z h (y0 :: y1 :: some (vI v) :: tl) (st) := by
  obtain ⟨p, l, e, R, s, m, args, below, meth, c, Q, g, nL⟩ := x
  obtain ⟨hx, hb, hml, hown, hts, hI, hlk, hR⟩ := hC
  intro H locs la hH hS hL
  exact lv_iload_n hx hb d rfl (hL.2.2 2 _ rfl) (kk H locs la hH hS hL)

theorem am_lload2 {x : am_X} {cc : ByteArray} {own : String} {n mc ms : Nat} (hC : am_C x cc own n mc ms) {pc k z : Nat} {h : am_H} {st : List Value} {y0 y1 : Option Value} {tl : List (Option Value)} {v : Int} (d : decode cc pc = .ok (.lload_n 2, 1)) (kk : am_W x (pc + 1) k z h (y0 :: y1 :: some (vL v) :: tl) (vL v :: st)) : am_W x (pc) k z h (y0 :: y1 :: some (vL v) :: tl) (st) := by
  obtain ⟨p, l, e, R, s, m, args, below, meth, c, Q, g, nL⟩ := x
  obtain ⟨hx, hb, hml, hown, hts, hI, hlk, hR⟩ := hC
  intro H locs la hH hS hL
  exact lv_lload_n hx hb d rfl (hL.2.2 2 _ rfl) (kk H locs la hH hS hL)

theorem am_aload2 {x : am_X} {cc : ByteArray} {own : String} {n mc ms : Nat} (hC : am_C x cc own n mc ms) {pc k z : Nat} {h : am_H} {st : List Value} {y0 y1 : Option Value} {tl : List (Option Value)} {v : Nat} (d : decode cc pc = .ok (.aload_n 2, 1)) (kk : am_W x (pc + 1) k z h (y0 :: y1 :: some (Value.ref v) :: tl) (Value.ref v :: st)) : am_W x (pc) k z h (y0 :: y1 :: some (Value.ref v) :: tl) (st) := by
  obtain ⟨p, l, e, R, s, m, args, below, meth, c, Q, g, nL⟩ := x
  obtain ⟨hx, hb, hml, hown, hts, hI, hlk, hR⟩ := hC
  intro H locs la hH hS hL
  exact lv_aload_n hx hb d rfl (hL.2.2 2 _ rfl) (kk H locs la hH hS hL)

theorem am_iload3 {x : am_X} {cc : ByteArray} {own : String} {n mc ms : Nat} (hC : am_C x cc own n mc ms) {pc k z : Nat} {h : am_H} {st : List Value} {y0 y1 y2 : Option Value} {tl : List (Option Value)} {v : Int} (d : decode cc pc = .ok (.iload_n 3, 1)) (kk : am_W x (pc + 1) k z h (y0 :: y1 :: y2 :: some (vI v) :: tl) (vI v :: st)) : am_W x (pc) k z h (y0 :: y1 :: y2 :: some (vI v) :: tl) (st) := by
  obtain ⟨p, l, e, R, s, m, args, below, meth, c, Q, g, nL⟩ := x
  obtain ⟨hx, hb, hml, hown, hts, hI, hlk, hR⟩ := hC
  intro H locs la hH hS hL
  exact lv_iload_n hx hb d rfl (hL.2.2 3 _ rfl) (kk H locs la hH hS hL)

theorem am_lload3 {x : am_X} {cc : ByteArray} {own : String} {n mc ms : Nat} (hC : am_C x cc own n mc ms) {pc k z : Nat} {h : am_H} {st : List Value} {y0 y1 y2 : Option Value} {tl : List (Option Value)} {v : Int} (d : decode cc pc = .ok (.lload_n 3, 1)) (kk : am_W x (pc + 1) k z h (y0 :: y1 :: y2 :: some (vL v) :: tl) (vL v :: st)) : am_W x (pc) k z h (y0 :: y1 :: y2 :: some (vL v) :: tl) (st) := by
  obtain ⟨p, l, e, R, s, m, args, below, meth, c, Q, g, nL⟩ := x
  obtain ⟨hx, hb, hml, hown, hts, hI, hlk, hR⟩ := hC
  intro H locs la hH hS hL
  exact lv_lload_n hx hb d rfl (hL.2.2 3 _ rfl) (kk H locs la hH hS hL)

theorem am_aload3 {x : am_X} {cc : ByteArray} {own : String} {n mc ms : Nat} (hC : am_C x cc own n mc ms) {pc k z : Nat} {h : am_H} {st : List Value} {y0 y1 y2 : Option Value} {tl : List (Option Value)} {v : Nat} (d : decode cc pc = .ok (.aload_n 3, 1)) (kk : am_W x (pc + 1) k z h (y0 :: y1 :: y2 :: some (Value.ref v) :: tl) (Value.ref v :: st)) : am_W x (pc) k z h (y0 :: y1 :: y2 :: some (Value.ref v) :: tl) (st) := by
  obtain ⟨p, l, e, R, s, m, args, below, meth, c, Q, g, nL⟩ := x
  obtain ⟨hx, hb, hml, hown, hts, hI, hlk, hR⟩ := hC
  intro H locs la hH hS hL
  exact lv_aload_n hx hb d rfl (hL.2.2 3 _ rfl) (kk H locs la hH hS hL)

theorem am_iload4 {x : am_X} {cc : ByteArray} {own : String} {n mc ms : Nat} (hC : am_C x cc own n mc ms) {pc k z : Nat} {h : am_H} {st : List Value} {y0 y1 y2 y3 : Option Value} {tl : List (Option Value)} {v : Int} (d : decode cc pc = .ok (.iload 4, 2)) (kk : am_W x (pc + 2) k z h (y0 :: y1 :: y2 :: y3 :: some (vI v) :: tl) (vI v :: st)) : am_W x (pc) k z h (y0 :: y1 :: y2 :: y3 :: some (vI v) :: tl) (st) := by
  obtain ⟨p, l, e, R, s, m, args, below, meth, c, Q, g, nL⟩ := x
  obtain ⟨hx, hb, hml, hown, hts, hI, hlk, hR⟩ := hC
  intro H locs la hH hS hL
  exact lv_iload hx hb d (hL.2.2 4 _ rfl) (kk H locs la hH hS hL)

theorem am_lload4 {x : am_X} {cc : ByteArray} {own : String} {n mc ms : Nat} (hC : am_C x cc own n mc ms) {pc k z : Nat} {h : am_H} {st : List Value} {y0 y1 y2 y3 : Option Value} {tl : List (Option Value)} {v : Int} (d : decode cc pc = .ok (.lload 4, 2)) (kk : am_W x (pc + 2) k z h (y0 :: y1 :: y2 :: y3 :: some (vL v) :: tl) (vL v :: st)) : am_W x (pc) k z h (y0 :: y1 :: y2 :: y3 :: some (vL v) :: tl) (st) := by
  obtain ⟨p, l, e, R, s, m, args, below, meth, c, Q, g, nL⟩ := x
  obtain ⟨hx, hb, hml, hown, hts, hI, hlk, hR⟩ := hC
  intro H locs la hH hS hL
  exact lv_lload hx hb d (hL.2.2 4 _ rfl) (kk H locs la hH hS hL)

theorem am_aload4 {x : am_X} {cc : ByteArray} {own : String} {n mc ms : Nat} (hC : am_C x cc own n mc ms) {pc k z : Nat} {h : am_H} {st : List Value} {y0 y1 y2 y3 : Option Value} {tl : List (Option Value)} {v : Nat} (d : decode cc pc = .ok (.aload 4, 2)) (kk : am_W x (pc + 2) k z h (y0 :: y1 :: y2 :: y3 :: some (Value.ref v) :: tl) (Value.ref v :: st)) : am_W x (pc) k z h (y0 :: y1 :: y2 :: y3 :: some (Value.ref v) :: tl) (st) := by
  obtain ⟨p, l, e, R, s, m, args, below, meth, c, Q, g, nL⟩ := x
  obtain ⟨hx, hb, hml, hown, hts, hI, hlk, hR⟩ := hC
  intro H locs la hH hS hL
  exact lv_aload hx hb d (hL.2.2 4 _ rfl) (kk H locs la hH hS hL)

theorem am_iload5 {x : am_X} {cc : ByteArray} {own : String} {n mc ms : Nat} (hC : am_C x cc own n mc ms) {pc k z : Nat} {h : am_H} {st : List Value} {y0 y1 y2 y3 y4 : Option Value} {tl : List (Option Value)} {v : Int} (d : decode cc pc = .ok (.iload 5, 2)) (kk : am_W x (pc + 2) k z h (y0 :: y1 :: y2 :: y3 :: y4 :: some (vI v) :: tl) (vI v :: st)) : am_W x (pc) k z h (y0 :: y1 :: y2 :: y3 :: y4 :: some (vI v) :: tl) (st) := by
  obtain ⟨p, l, e, R, s, m, args, below, meth, c, Q, g, nL⟩ := x
  obtain ⟨hx, hb, hml, hown, hts, hI, hlk, hR⟩ := hC
  intro H locs la hH hS hL
  exact lv_iload hx hb d (hL.2.2 5 _ rfl) (kk H locs la hH hS hL)

theorem am_lload5 {x : am_X} {cc : ByteArray} {own : String} {n mc ms : Nat} (hC : am_C x cc own n mc ms) {pc k z : Nat} {h : am_H} {st : List Value} {y0 y1 y2 y3 y4 : Option Value} {tl : List (Option Value)} {v : Int} (d : decode cc pc = .ok (.lload 5, 2)) (kk : am_W x (pc + 2) k z h (y0 :: y1 :: y2 :: y3 :: y4 :: some (vL v) :: tl) (vL v :: st)) : am_W x (pc) k z h (y0 :: y1 :: y2 :: y3 :: y4 :: some (vL v) :: tl) (st) := by
  obtain ⟨p, l, e, R, s, m, args, below, meth, c, Q, g, nL⟩ := x
  obtain ⟨hx, hb, hml, hown, hts, hI, hlk, hR⟩ := hC
  intro H locs la hH hS hL
  exact lv_lload hx hb d (hL.2.2 5 _ rfl) (kk H locs la hH hS hL)

theorem am_aload5 {x : am_X} {cc : ByteArray} {own : String} {n mc ms : Nat} (hC : am_C x cc own n mc ms) {pc k z : Nat} {h : am_H} {st : List Value} {y0 y1 y2 y3 y4 : Option Value} {tl : List (Option Value)} {v : Nat} (d : decode cc pc = .ok (.aload 5, 2)) (kk : am_W x (pc + 2) k z h (y0 :: y1 :: y2 :: y3 :: y4 :: some (Value.ref v) :: tl) (Value.ref v :: st)) : am_W x (pc) k z h (y0 :: y1 :: y2 :: y3 :: y4 :: some (Value.ref v) :: tl) (st) := by
  obtain ⟨p, l, e, R, s, m, args, below, meth, c, Q, g, nL⟩ := x
  obtain ⟨hx, hb, hml, hown, hts, hI, hlk, hR⟩ := hC
  intro H locs la hH hS hL
  exact lv_aload hx hb d (hL.2.2 5 _ rfl) (kk H locs la hH hS hL)

theorem am_iload6 {x : am_X} {cc : ByteArray} {own : String} {n mc ms : Nat} (hC : am_C x cc own n mc ms) {pc k z : Nat} {h : am_H} {st : List Value} {y0 y1 y2 y3 y4 y5 : Option Value} {tl : List (Option Value)} {v : Int} (d : decode cc pc = .ok (.iload 6, 2)) (kk : am_W x (pc + 2) k z h (y0 :: y1 :: y2 :: y3 :: y4 :: y5 :: some (vI v) :: tl) (vI v :: st)) : am_W x (pc) k z h (y0 :: y1 :: y2 :: y3 :: y4 :: y5 :: some (vI v) :: tl) (st) := by
  obtain ⟨p, l, e, R, s, m, args, below, meth, c, Q, g, nL⟩ := x
  obtain ⟨hx, hb, hml, hown, hts, hI, hlk, hR⟩ := hC
  intro H locs la hH hS hL
  exact lv_iload hx hb d (hL.2.2 6 _ rfl) (kk H locs la hH hS hL)

theorem am_lload6 {x : am_X} {cc : ByteArray} {own : String} {n mc ms : Nat} (hC : am_C x cc own n mc ms) {pc k z : Nat} {h : am_H} {st : List Value} {y0 y1 y2 y3 y4 y5 : Option Value} {tl : List (Option Value)} {v : Int} (d : decode cc pc = .ok (.lload 6, 2)) (kk : am_W x (pc + 2) k z h (y0 :: y1 :: y2 :: y3 :: y4 :: y5 :: some (vL v) :: tl) (vL v :: st)) : am_W x (pc) k z h (y0 :: y1 :: y2 :: y3 :: y4 :: y5 :: some (vL v) :: tl) (st) := by
  obtain ⟨p, l, e, R, s, m, args, below, meth, c, Q, g, nL⟩ := x
  obtain ⟨hx, hb, hml, hown, hts, hI, hlk, hR⟩ := hC
  intro H locs la hH hS hL
  exact lv_lload hx hb d (hL.2.2 6 _ rfl) (kk H locs la hH hS hL)

theorem am_aload6 {x : am_X} {cc : ByteArray} {own : String} {n mc ms : Nat} (hC : am_C x cc own n mc ms) {pc k z : Nat} {h : am_H} {st : List Value} {y0 y1 y2 y3 y4 y5 : Option Value} {tl : List (Option Value)} {v : Nat} (d : decode cc pc = .ok (.aload 6, 2)) (kk : am_W x (pc + 2) k z h (y0 :: y1 :: y2 :: y3 :: y4 :: y5 :: some (Value.ref v) :: tl) (Value.ref v :: st)) : am_W x (pc) k z h (y0 :: y1 :: y2 :: y3 :: y4 :: y5 :: some (Value.ref v) :: tl) (st) := by
  obtain ⟨p, l, e, R, s, m, args, below, meth, c, Q, g, nL⟩ := x
  obtain ⟨hx, hb, hml, hown, hts, hI, hlk, hR⟩ := hC
  intro H locs la hH hS hL
  exact lv_aload hx hb d (hL.2.2 6 _ rfl) (kk H locs la hH hS hL)

theorem am_iload7 {x : am_X} {cc : ByteArray} {own : String} {n mc ms : Nat} (hC : am_C x cc own n mc ms) {pc k z : Nat} {h : am_H} {st : List Value} {y0 y1 y2 y3 y4 y5 y6 : Option Value} {tl : List (Option Value)} {v : Int} (d : decode cc pc = .ok (.iload 7, 2)) (kk : am_W x (pc + 2) k z h (y0 :: y1 :: y2 :: y3 :: y4 :: y5 :: y6 :: some (vI v) :: tl) (vI v :: st)) : am_W x (pc) k z h (y0 :: y1 :: y2 :: y3 :: y4 :: y5 :: y6 :: some (vI v) :: tl) (st) := by
  obtain ⟨p, l, e, R, s, m, args, below, meth, c, Q, g, nL⟩ := x
  obtain ⟨hx, hb, hml, hown, hts, hI, hlk, hR⟩ := hC
  intro H locs la hH hS hL
  exact lv_iload hx hb d (hL.2.2 7 _ rfl) (kk H locs la hH hS hL)

theorem am_lload7 {x : am_X} {cc : ByteArray} {own : String} {n mc ms : Nat} (hC : am_C x cc own n mc ms) {pc k z : Nat} {h : am_H} {st : List Value} {y0 y1 y2 y3 y4 y5 y6 : Option Value} {tl : List (Option Value)} {v : Int} (d : decode cc pc = .ok (.lload 7, 2)) (kk : am_W x (pc + 2) k z h (y0 :: y1 :: y2 :: y3 :: y4 :: y5 :: y6 :: some (vL v) :: tl) (vL v :: st)) : am_W x (pc) k z h (y0 :: y1 :: y2 :: y3 :: y4 :: y5 :: y6 :: some (vL v) :: tl) (st) := by
  obtain ⟨p, l, e, R, s, m, args, below, meth, c, Q, g, nL⟩ := x
  obtain ⟨hx, hb, hml, hown, hts, hI, hlk, hR⟩ := hC
  intro H locs la hH hS hL
  exact lv_lload hx hb d (hL.2.2 7 _ rfl) (kk H locs la hH hS hL)

theorem am_aload7 {x : am_X} {cc : ByteArray} {own : String} {n mc ms : Nat} (hC : am_C x cc own n mc ms) {pc k z : Nat} {h : am_H} {st : List Value} {y0 y1 y2 y3 y4 y5 y6 : Option Value} {tl : List (Option Value)} {v : Nat} (d : decode cc pc = .ok (.aload 7, 2)) (kk : am_W x (pc + 2) k z h (y0 :: y1 :: y2 :: y3 :: y4 :: y5 :: y6 :: some (Value.ref v) :: tl) (Value.ref v :: st)) : am_W x (pc) k z h (y0 :: y1 :: y2 :: y3 :: y4 :: y5 :: y6 :: some (Value.ref v) :: tl) (st) := by
  obtain ⟨p, l, e, R, s, m, args, below, meth, c, Q, g, nL⟩ := x
  obtain ⟨hx, hb, hml, hown, hts, hI, hlk, hR⟩ := hC
  intro H locs la hH hS hL
  exact lv_aload hx hb d (hL.2.2 7 _ rfl) (kk H locs la hH hS hL)

theorem am_iload8 {x : am_X} {cc : ByteArray} {own : String} {n mc ms : Nat} (hC : am_C x cc own n mc ms) {pc k z : Nat} {h : am_H} {st : List Value} {y0 y1 y2 y3 y4 y5 y6 y7 : Option Value} {tl : List (Option Value)} {v : Int} (d : decode cc pc = .ok (.iload 8, 2)) (kk : am_W x (pc + 2) k z h (y0 :: y1 :: y2 :: y3 :: y4 :: y5 :: y6 :: y7 :: some (vI v) :: tl) (vI v :: st)) : am_W x (pc) k z h (y0 :: y1 :: y2 :: y3 :: y4 :: y5 :: y6 :: y7 :: some (vI v) :: tl) (st) := by
  obtain ⟨p, l, e, R, s, m, args, below, meth, c, Q, g, nL⟩ := x
  obtain ⟨hx, hb, hml, hown, hts, hI, hlk, hR⟩ := hC
  intro H locs la hH hS hL
  exact lv_iload hx hb d (hL.2.2 8 _ rfl) (kk H locs la hH hS hL)

theorem am_lload8 {x : am_X} {cc : ByteArray} {own : String} {n mc ms : Nat} (hC : am_C x cc own n mc ms) {pc k z : Nat} {h : am_H} {st : List Value} {y0 y1 y2 y3 y4 y5 y6 y7 : Option Value} {tl : List (Option Value)} {v : Int} (d : decode cc pc = .ok (.lload 8, 2)) (kk : am_W x (pc + 2) k z h (y0 :: y1 :: y2 :: y3 :: y4 :: y5 :: y6 :: y7 :: some (vL v) :: tl) (vL v :: st)) : am_W x (pc) k z h (y0 :: y1 :: y2 :: y3 :: y4 :: y5 :: y6 :: y7 :: some (vL v) :: tl) (st) := by
  obtain ⟨p, l, e, R, s, m, args, below, meth, c, Q, g, nL⟩ := x
  obtain ⟨hx, hb, hml, hown, hts, hI, hlk, hR⟩ := hC
  intro H locs la hH hS hL
  exact lv_lload hx hb d (hL.2.2 8 _ rfl) (kk H locs la hH hS hL)

theorem am_aload8 {x : am_X} {cc : ByteArray} {own : String} {n mc ms : Nat} (hC : am_C x cc own n mc ms) {pc k z : Nat} {h : am_H} {st : List Value} {y0 y1 y2 y3 y4 y5 y6 y7 : Option Value} {tl : List (Option Value)} {v : Nat} (d : decode cc pc = .ok (.aload 8, 2)) (kk : am_W x (pc + 2) k z h (y0 :: y1 :: y2 :: y3 :: y4 :: y5 :: y6 :: y7 :: some (Value.ref v) :: tl) (Value.ref v :: st)) : am_W x (pc) k z h (y0 :: y1 :: y2 :: y3 :: y4 :: y5 :: y6 :: y7 :: some (Value.ref v) :: tl) (st) := by
  obtain ⟨p, l, e, R, s, m, args, below, meth, c, Q, g, nL⟩ := x
  obtain ⟨hx, hb, hml, hown, hts, hI, hlk, hR⟩ := hC
  intro H locs la hH hS hL
  exact lv_aload hx hb d (hL.2.2 8 _ rfl) (kk H locs la hH hS hL)

theorem am_iload9 {x : am_X} {cc : ByteArray} {own : String} {n mc ms : Nat} (hC : am_C x cc own n mc ms) {pc k z : Nat} {h : am_H} {st : List Value} {y0 y1 y2 y3 y4 y5 y6 y7 y8 : Option Value} {tl : List (Option Value)} {v : Int} (d : decode cc pc = .ok (.iload 9, 2)) (kk : am_W x (pc + 2) k z h (y0 :: y1 :: y2 :: y3 :: y4 :: y5 :: y6 :: y7 :: y8 :: some (vI v) :: tl) (vI v :: st)) : am_W x (pc) k z h (y0 :: y1 :: y2 :: y3 :: y4 :: y5 :: y6 :: y7 :: y8 :: some (vI v) :: tl) (st) := by
  obtain ⟨p, l, e, R, s, m, args, below, meth, c, Q, g, nL⟩ := x
  obtain ⟨hx, hb, hml, hown, hts, hI, hlk, hR⟩ := hC
  intro H locs la hH hS hL
  exact lv_iload hx hb d (hL.2.2 9 _ rfl) (kk H locs la hH hS hL)

theorem am_lload9 {x : am_X} {cc : ByteArray} {own : String} {n mc ms : Nat} (hC : am_C x cc own n mc ms) {pc k z : Nat} {h : am_H} {st : List Value} {y0 y1 y2 y3 y4 y5 y6 y7 y8 : Option Value} {tl : List (Option Value)} {v : Int} (d : decode cc pc = .ok (.lload 9, 2)) (kk : am_W x (pc + 2) k z h (y0 :: y1 :: y2 :: y3 :: y4 :: y5 :: y6 :: y7 :: y8 :: some (vL v) :: tl) (vL v :: st)) : am_W x (pc) k z h (y0 :: y1 :: y2 :: y3 :: y4 :: y5 :: y6 :: y7 :: y8 :: some (vL v) :: tl) (st) := by
  obtain ⟨p, l, e, R, s, m, args, below, meth, c, Q, g, nL⟩ := x
  obtain ⟨hx, hb, hml, hown, hts, hI, hlk, hR⟩ := hC
  intro H locs la hH hS hL
  exact lv_lload hx hb d (hL.2.2 9 _ rfl) (kk H locs la hH hS hL)

theorem am_aload9 {x : am_X} {cc : ByteArray} {own : String} {n mc ms : Nat} (hC : am_C x cc own n mc ms) {pc k z : Nat} {h : am_H} {st : List Value} {y0 y1 y2 y3 y4 y5 y6 y7 y8 : Option Value} {tl : List (Option Value)} {v : Nat} (d : decode cc pc = .ok (.aload 9, 2)) (kk : am_W x (pc + 2) k z h (y0 :: y1 :: y2 :: y3 :: y4 :: y5 :: y6 :: y7 :: y8 :: some (Value.ref v) :: tl) (Value.ref v :: st)) : am_W x (pc) k z h (y0 :: y1 :: y2 :: y3 :: y4 :: y5 :: y6 :: y7 :: y8 :: some (Value.ref v) :: tl) (st) := by
  obtain ⟨p, l, e, R, s, m, args, below, meth, c, Q, g, nL⟩ := x
  obtain ⟨hx, hb, hml, hown, hts, hI, hlk, hR⟩ := hC
  intro H locs la hH hS hL
  exact lv_aload hx hb d (hL.2.2 9 _ rfl) (kk H locs la hH hS hL)

theorem am_iload10 {x : am_X} {cc : ByteArray} {own : String} {n mc ms : Nat} (hC : am_C x cc own n mc ms) {pc k z : Nat} {h : am_H} {st : List Value} {y0 y1 y2 y3 y4 y5 y6 y7 y8 y9 : Option Value} {tl : List (Option Value)} {v : Int} (d : decode cc pc = .ok (.iload 10, 2)) (kk : am_W x (pc + 2) k z h (y0 :: y1 :: y2 :: y3 :: y4 :: y5 :: y6 :: y7 :: y8 :: y9 :: some (vI v) :: tl) (vI v :: st)) : am_W x (pc) k z h (y0 :: y1 :: y2 :: y3 :: y4 :: y5 :: y6 :: y7 :: y8 :: y9 :: some (vI v) :: tl) (st) := by
  obtain ⟨p, l, e, R, s, m, args, below, meth, c, Q, g, nL⟩ := x
  obtain ⟨hx, hb, hml, hown, hts, hI, hlk, hR⟩ := hC
  intro H locs la hH hS hL
  exact lv_iload hx hb d (hL.2.2 10 _ rfl) (kk H locs la hH hS hL)

theorem am_lload10 {x : am_X} {cc : ByteArray} {own : String} {n mc ms : Nat} (hC : am_C x cc own n mc ms) {pc k z : Nat} {h : am_H} {st : List Value} {y0 y1 y2 y3 y4 y5 y6 y7 y8 y9 : Option Value} {tl : List (Option Value)} {v : Int} (d : decode cc pc = .ok (.lload 10, 2)) (kk : am_W x (pc + 2) k z h (y0 :: y1 :: y2 :: y3 :: y4 :: y5 :: y6 :: y7 :: y8 :: y9 :: some (vL v) :: tl) (vL v :: st)) : am_W x (pc) k z h (y0 :: y1 :: y2 :: y3 :: y4 :: y5 :: y6 :: y7 :: y8 :: y9 :: some (vL v) :: tl) (st) := by
  obtain ⟨p, l, e, R, s, m, args, below, meth, c, Q, g, nL⟩ := x
  obtain ⟨hx, hb, hml, hown, hts, hI, hlk, hR⟩ := hC
  intro H locs la hH hS hL
  exact lv_lload hx hb d (hL.2.2 10 _ rfl) (kk H locs la hH hS hL)

theorem am_aload10 {x : am_X} {cc : ByteArray} {own : String} {n mc ms : Nat} (hC : am_C x cc own n mc ms) {pc k z : Nat} {h : am_H} {st : List Value} {y0 y1 y2 y3 y4 y5 y6 y7 y8 y9 : Option Value} {tl : List (Option Value)} {v : Nat} (d : decode cc pc = .ok (.aload 10, 2)) (kk : am_W x (pc + 2) k z h (y0 :: y1 :: y2 :: y3 :: y4 :: y5 :: y6 :: y7 :: y8 :: y9 :: some (Value.ref v) :: tl) (Value.ref v :: st)) : am_W x (pc) k z h (y0 :: y1 :: y2 :: y3 :: y4 :: y5 :: y6 :: y7 :: y8 :: y9 :: some (Value.ref v) :: tl) (st) := by
  obtain ⟨p, l, e, R, s, m, args, below, meth, c, Q, g, nL⟩ := x
  obtain ⟨hx, hb, hml, hown, hts, hI, hlk, hR⟩ := hC
  intro H locs la hH hS hL
  exact lv_aload hx hb d (hL.2.2 10 _ rfl) (kk H locs la hH hS hL)

theorem am_iload11 {x : am_X} {cc : ByteArray} {own : String} {n mc ms : Nat} (hC : am_C x cc own n mc ms) {pc k z : Nat} {h : am_H} {st : List Value} {y0 y1 y2 y3 y4 y5 y6 y7 y8 y9 y10 : Option Value} {tl : List (Option Value)} {v : Int} (d : decode cc pc = .ok (.iload 11, 2)) (kk : am_W x (pc + 2) k z h (y0 :: y1 :: y2 :: y3 :: y4 :: y5 :: y6 :: y7 :: y8 :: y9 :: y10 :: some (vI v) :: tl) (vI v :: st)) : am_W x (pc) k z h (y0 :: y1 :: y2 :: y3 :: y4 :: y5 :: y6 :: y7 :: y8 :: y9 :: y10 :: some (vI v) :: tl) (st) := by
  obtain ⟨p, l, e, R, s, m, args, below, meth, c, Q, g, nL⟩ := x
  obtain ⟨hx, hb, hml, hown, hts, hI, hlk, hR⟩ := hC
  intro H locs la hH hS hL
  exact lv_iload hx hb d (hL.2.2 11 _ rfl) (kk H locs la hH hS hL)

theorem am_lload11 {x : am_X} {cc : ByteArray} {own : String} {n mc ms : Nat} (hC : am_C x cc own n mc ms) {pc k z : Nat} {h : am_H} {st : List Value} {y0 y1 y2 y3 y4 y5 y6 y7 y8 y9 y10 : Option Value} {tl : List (Option Value)} {v : Int} (d : decode cc pc = .ok (.lload 11, 2)) (kk : am_W x (pc + 2) k z h (y0 :: y1 :: y2 :: y3 :: y4 :: y5 :: y6 :: y7 :: y8 :: y9 :: y10 :: some (vL v) :: tl) (vL v :: st)) : am_W x (pc) k z h (y0 :: y1 :: y2 :: y3 :: y4 :: y5 :: y6 :: y7 :: y8 :: y9 :: y10 :: some (vL v) :: tl) (st) := by
  obtain ⟨p, l, e, R, s, m, args, below, meth, c, Q, g, nL⟩ := x
  obtain ⟨hx, hb, hml, hown, hts, hI, hlk, hR⟩ := hC
  intro H locs la hH hS hL
  exact lv_lload hx hb d (hL.2.2 11 _ rfl) (kk H locs la hH hS hL)

theorem am_aload11 {x : am_X} {cc : ByteArray} {own : String} {n mc ms : Nat} (hC : am_C x cc own n mc ms) {pc k z : Nat} {h : am_H} {st : List Value} {y0 y1 y2 y3 y4 y5 y6 y7 y8 y9 y10 : Option Value} {tl : List (Option Value)} {v : Nat} (d : decode cc pc = .ok (.aload 11, 2)) (kk : am_W x (pc + 2) k z h (y0 :: y1 :: y2 :: y3 :: y4 :: y5 :: y6 :: y7 :: y8 :: y9 :: y10 :: some (Value.ref v) :: tl) (Value.ref v :: st)) : am_W x (pc) k z h (y0 :: y1 :: y2 :: y3 :: y4 :: y5 :: y6 :: y7 :: y8 :: y9 :: y10 :: some (Value.ref v) :: tl) (st) := by
  obtain ⟨p, l, e, R, s, m, args, below, meth, c, Q, g, nL⟩ := x
  obtain ⟨hx, hb, hml, hown, hts, hI, hlk, hR⟩ := hC
  intro H locs la hH hS hL
  exact lv_aload hx hb d (hL.2.2 11 _ rfl) (kk H locs la hH hS hL)

theorem am_iload12 {x : am_X} {cc : ByteArray} {own : String} {n mc ms : Nat} (hC : am_C x cc own n mc ms) {pc k z : Nat} {h : am_H} {st : List Value} {y0 y1 y2 y3 y4 y5 y6 y7 y8 y9 y10 y11 : Option Value} {tl : List (Option Value)} {v : Int} (d : decode cc pc = .ok (.iload 12, 2)) (kk : am_W x (pc + 2) k z h (y0 :: y1 :: y2 :: y3 :: y4 :: y5 :: y6 :: y7 :: y8 :: y9 :: y10 :: y11 :: some (vI v) :: tl) (vI v :: st)) : am_W x (pc) k z h (y0 :: y1 :: y2 :: y3 :: y4 :: y5 :: y6 :: y7 :: y8 :: y9 :: y10 :: y11 :: some (vI v) :: tl) (st) := by
  obtain ⟨p, l, e, R, s, m, args, below, meth, c, Q, g, nL⟩ := x
  obtain ⟨hx, hb, hml, hown, hts, hI, hlk, hR⟩ := hC
  intro H locs la hH hS hL
  exact lv_iload hx hb d (hL.2.2 12 _ rfl) (kk H locs la hH hS hL)

theorem am_lload12 {x : am_X} {cc : ByteArray} {own : String} {n mc ms : Nat} (hC : am_C x cc own n mc ms) {pc k z : Nat} {h : am_H} {st : List Value} {y0 y1 y2 y3 y4 y5 y6 y7 y8 y9 y10 y11 : Option Value} {tl : List (Option Value)} {v : Int} (d : decode cc pc = .ok (.lload 12, 2)) (kk : am_W x (pc + 2) k z h (y0 :: y1 :: y2 :: y3 :: y4 :: y5 :: y6 :: y7 :: y8 :: y9 :: y10 :: y11 :: some (vL v) :: tl) (vL v :: st)) : am_W x (pc) k z h (y0 :: y1 :: y2 :: y3 :: y4 :: y5 :: y6 :: y7 :: y8 :: y9 :: y10 :: y11 :: some (vL v) :: tl) (st) := by
  obtain ⟨p, l, e, R, s, m, args, below, meth, c, Q, g, nL⟩ := x
  obtain ⟨hx, hb, hml, hown, hts, hI, hlk, hR⟩ := hC
  intro H locs la hH hS hL
  exact lv_lload hx hb d (hL.2.2 12 _ rfl) (kk H locs la hH hS hL)

theorem am_aload12 {x : am_X} {cc : ByteArray} {own : String} {n mc ms : Nat} (hC : am_C x cc own n mc ms) {pc k z : Nat} {h : am_H} {st : List Value} {y0 y1 y2 y3 y4 y5 y6 y7 y8 y9 y10 y11 : Option Value} {tl : List (Option Value)} {v : Nat} (d : decode cc pc = .ok (.aload 12, 2)) (kk : am_W x (pc + 2) k z h (y0 :: y1 :: y2 :: y3 :: y4 :: y5 :: y6 :: y7 :: y8 :: y9 :: y10 :: y11 :: some (Value.ref v) :: tl) (Value.ref v :: st)) : am_W x (pc) k z h (y0 :: y1 :: y2 :: y3 :: y4 :: y5 :: y6 :: y7 :: y8 :: y9 :: y10 :: y11 :: some (Value.ref v) :: tl) (st) := by
  obtain ⟨p, l, e, R, s, m, args, below, meth, c, Q, g, nL⟩ := x
  obtain ⟨hx, hb, hml, hown, hts, hI, hlk, hR⟩ := hC
  intro H locs la hH hS hL
  exact lv_aload hx hb d (hL.2.2 12 _ rfl) (kk H locs la hH hS hL)

theorem am_iload13 {x : am_X} {cc : ByteArray} {own : String} {n mc ms : Nat} (hC : am_C x cc own n mc ms) {pc k z : Nat} {h : am_H} {st : List Value} {y0 y1 y2 y3 y4 y5 y6 y7 y8 y9 y10 y11 y12 : Option Value} {tl : List (Option Value)} {v : Int} (d : decode cc pc = .ok (.iload 13, 2)) (kk : am_W x (pc + 2) k z h (y0 :: y1 :: y2 :: y3 :: y4 :: y5 :: y6 :: y7 :: y8 :: y9 :: y10 :: y11 :: y12 :: some (vI v) :: tl) (vI v :: st)) : am_W x (pc) k z h (y0 :: y1 :: y2 :: y3 :: y4 :: y5 :: y6 :: y7 :: y8 :: y9 :: y10 :: y11 :: y12 :: some (vI v) :: tl) (st) := by
  obtain ⟨p, l, e, R, s, m, args, below, meth, c, Q, g, nL⟩ := x
  obtain ⟨hx, hb, hml, hown, hts, hI, hlk, hR⟩ := hC
  intro H locs la hH hS hL
  exact lv_iload hx hb d (hL.2.2 13 _ rfl) (kk H locs la hH hS hL)

theorem am_lload13 {x : am_X} {cc : ByteArray} {own : String} {n mc ms : Nat} (hC : am_C x cc own n mc ms) {pc k z : Nat} {h : am_H} {st : List Value} {y0 y1 y2 y3 y4 y5 y6 y7 y8 y9 y10 y11 y12 : Option Value} {tl : List (Option Value)} {v : Int} (d : decode cc pc = .ok (.lload 13, 2)) (kk : am_W x (pc + 2) k z h (y0 :: y1 :: y2 :: y3 :: y4 :: y5 :: y6 :: y7 :: y8 :: y9 :: y10 :: y11 :: y12 :: some (vL v) :: tl) (vL v :: st)) : am_W x (pc) k z h (y0 :: y1 :: y2 :: y3 :: y4 :: y5 :: y6 :: y7 :: y8 :: y9 :: y10 :: y11 :: y12 :: some (vL v) :: tl) (st) := by
  obtain ⟨p, l, e, R, s, m, args, below, meth, c, Q, g, nL⟩ := x
  obtain ⟨hx, hb, hml, hown, hts, hI, hlk, hR⟩ := hC
  intro H locs la hH hS hL
  exact lv_lload hx hb d (hL.2.2 13 _ rfl) (kk H locs la hH hS hL)

theorem am_aload13 {x : am_X} {cc : ByteArray} {own : String} {n mc ms : Nat} (hC : am_C x cc own n mc ms) {pc k z : Nat} {h : am_H} {st : List Value} {y0 y1 y2 y3 y4 y5 y6 y7 y8 y9 y10 y11 y12 : Option Value} {tl : List (Option Value)} {v : Nat} (d : decode cc pc = .ok (.aload 13, 2)) (kk : am_W x (pc + 2) k z h (y0 :: y1 :: y2 :: y3 :: y4 :: y5 :: y6 :: y7 :: y8 :: y9 :: y10 :: y11 :: y12 :: some (Value.ref v) :: tl) (Value.ref v :: st)) : am_W x (pc) k z h (y0 :: y1 :: y2 :: y3 :: y4 :: y5 :: y6 :: y7 :: y8 :: y9 :: y10 :: y11 :: y12 :: some (Value.ref v) :: tl) (st) := by
  obtain ⟨p, l, e, R, s, m, args, below, meth, c, Q, g, nL⟩ := x
  obtain ⟨hx, hb, hml, hown, hts, hI, hlk, hR⟩ := hC
  intro H locs la hH hS hL
  exact lv_aload hx hb d (hL.2.2 13 _ rfl) (kk H locs la hH hS hL)

theorem am_iload14 {x : am_X} {cc : ByteArray} {own : String} {n mc ms : Nat} (hC : am_C x cc own n mc ms) {pc k z : Nat} {h : am_H} {st : List Value} {y0 y1 y2 y3 y4 y5 y6 y7 y8 y9 y10 y11 y12 y13 : Option Value} {tl : List (Option Value)} {v : Int} (d : decode cc pc = .ok (.iload 14, 2)) (kk : am_W x (pc + 2) k z h (y0 :: y1 :: y2 :: y3 :: y4 :: y5 :: y6 :: y7 :: y8 :: y9 :: y10 :: y11 :: y12 :: y13 :: some (vI v) :: tl) (vI v :: st)) : am_W x (pc) k z h (y0 :: y1 :: y2 :: y3 :: y4 :: y5 :: y6 :: y7 :: y8 :: y9 :: y10 :: y11 :: y12 :: y13 :: some (vI v) :: tl) (st) := by
  obtain ⟨p, l, e, R, s, m, args, below, meth, c, Q, g, nL⟩ := x
  obtain ⟨hx, hb, hml, hown, hts, hI, hlk, hR⟩ := hC
  intro H locs la hH hS hL
  exact lv_iload hx hb d (hL.2.2 14 _ rfl) (kk H locs la hH hS hL)

theorem am_lload14 {x : am_X} {cc : ByteArray} {own : String} {n mc ms : Nat} (hC : am_C x cc own n mc ms) {pc k z : Nat} {h : am_H} {st : List Value} {y0 y1 y2 y3 y4 y5 y6 y7 y8 y9 y10 y11 y12 y13 : Option Value} {tl : List (Option Value)} {v : Int} (d : decode cc pc = .ok (.lload 14, 2)) (kk : am_W x (pc + 2) k z h (y0 :: y1 :: y2 :: y3 :: y4 :: y5 :: y6 :: y7 :: y8 :: y9 :: y10 :: y11 :: y12 :: y13 :: some (vL v) :: tl) (vL v :: st)) : am_W x (pc) k z h (y0 :: y1 :: y2 :: y3 :: y4 :: y5 :: y6 :: y7 :: y8 :: y9 :: y10 :: y11 :: y12 :: y13 :: some (vL v) :: tl) (st) := by
  obtain ⟨p, l, e, R, s, m, args, below, meth, c, Q, g, nL⟩ := x
  obtain ⟨hx, hb, hml, hown, hts, hI, hlk, hR⟩ := hC
  intro H locs la hH hS hL
  exact lv_lload hx hb d (hL.2.2 14 _ rfl) (kk H locs la hH hS hL)

theorem am_aload14 {x : am_X} {cc : ByteArray} {own : String} {n mc ms : Nat} (hC : am_C x cc own n mc ms) {pc k z : Nat} {h : am_H} {st : List Value} {y0 y1 y2 y3 y4 y5 y6 y7 y8 y9 y10 y11 y12 y13 : Option Value} {tl : List (Option Value)} {v : Nat} (d : decode cc pc = .ok (.aload 14, 2)) (kk : am_W x (pc + 2) k z h (y0 :: y1 :: y2 :: y3 :: y4 :: y5 :: y6 :: y7 :: y8 :: y9 :: y10 :: y11 :: y12 :: y13 :: some (Value.ref v) :: tl) (Value.ref v :: st)) : am_W x (pc) k z h (y0 :: y1 :: y2 :: y3 :: y4 :: y5 :: y6 :: y7 :: y8 :: y9 :: y10 :: y11 :: y12 :: y13 :: some (Value.ref v) :: tl) (st) := by
  obtain ⟨p, l, e, R, s, m, args, below, meth, c, Q, g, nL⟩ := x
  obtain ⟨hx, hb, hml, hown, hts, hI, hlk, hR⟩ := hC
  intro H locs la hH hS hL
  exact lv_aload hx hb d (hL.2.2 14 _ rfl) (kk H locs la hH hS hL)

theorem am_iload15 {x : am_X} {cc : ByteArray} {own : String} {n mc ms : Nat} (hC : am_C x cc own n mc ms) {pc k z : Nat} {h : am_H} {st : List Value} {y0 y1 y2 y3 y4 y5 y6 y7 y8 y9 y10 y11 y12 y13 y14 : Option Value} {tl : List (Option Value)} {v : Int} (d : decode cc pc = .ok (.iload 15, 2)) (kk : am_W x (pc + 2) k z h (y0 :: y1 :: y2 :: y3 :: y4 :: y5 :: y6 :: y7 :: y8 :: y9 :: y10 :: y11 :: y12 :: y13 :: y14 :: some (vI v) :: tl) (vI v :: st)) : am_W x (pc) k z h (y0 :: y1 :: y2 :: y3 :: y4 :: y5 :: y6 :: y7 :: y8 :: y9 :: y10 :: y11 :: y12 :: y13 :: y14 :: some (vI v) :: tl) (st) := by
  obtain ⟨p, l, e, R, s, m, args, below, meth, c, Q, g, nL⟩ := x
  obtain ⟨hx, hb, hml, hown, hts, hI, hlk, hR⟩ := hC
  intro H locs la hH hS hL
  exact lv_iload hx hb d (hL.2.2 15 _ rfl) (kk H locs la hH hS hL)

theorem am_lload15 {x : am_X} {cc : ByteArray} {own : String} {n mc ms : Nat} (hC : am_C x cc own n mc ms) {pc k z : Nat} {h : am_H} {st : List Value} {y0 y1 y2 y3 y4 y5 y6 y7 y8 y9 y10 y11 y12 y13 y14 : Option Value} {tl : List (Option Value)} {v : Int} (d : decode cc pc = .ok (.lload 15, 2)) (kk : am_W x (pc + 2) k z h (y0 :: y1 :: y2 :: y3 :: y4 :: y5 :: y6 :: y7 :: y8 :: y9 :: y10 :: y11 :: y12 :: y13 :: y14 :: some (vL v) :: tl) (vL v :: st)) : am_W x (pc) k z h (y0 :: y1 :: y2 :: y3 :: y4 :: y5 :: y6 :: y7 :: y8 :: y9 :: y10 :: y11 :: y12 :: y13 :: y14 :: some (vL v) :: tl) (st) := by
  obtain ⟨p, l, e, R, s, m, args, below, meth, c, Q, g, nL⟩ := x
  obtain ⟨hx, hb, hml, hown, hts, hI, hlk, hR⟩ := hC
  intro H locs la hH hS hL
  exact lv_lload hx hb d (hL.2.2 15 _ rfl) (kk H locs la hH hS hL)

theorem am_aload15 {x : am_X} {cc : ByteArray} {own : String} {n mc ms : Nat} (hC : am_C x cc own n mc ms) {pc k z : Nat} {h : am_H} {st : List Value} {y0 y1 y2 y3 y4 y5 y6 y7 y8 y9 y10 y11 y12 y13 y14 : Option Value} {tl : List (Option Value)} {v : Nat} (d : decode cc pc = .ok (.aload 15, 2)) (kk : am_W x (pc + 2) k z h (y0 :: y1 :: y2 :: y3 :: y4 :: y5 :: y6 :: y7 :: y8 :: y9 :: y10 :: y11 :: y12 :: y13 :: y14 :: some (Value.ref v) :: tl) (Value.ref v :: st)) : am_W x (pc) k z h (y0 :: y1 :: y2 :: y3 :: y4 :: y5 :: y6 :: y7 :: y8 :: y9 :: y10 :: y11 :: y12 :: y13 :: y14 :: some (Value.ref v) :: tl) (st) := by
  obtain ⟨p, l, e, R, s, m, args, below, meth, c, Q, g, nL⟩ := x
  obtain ⟨hx, hb, hml, hown, hts, hI, hlk, hR⟩ := hC
  intro H locs la hH hS hL
  exact lv_aload hx hb d (hL.2.2 15 _ rfl) (kk H locs la hH hS hL)

/-- what stands ahead of a place isn't a long -/
def am_n2 (o : Option Value) : Bool := match o with
  | some v => v.category != 2
  | none => true
theorem am_hp {ls : List (Option Value)} {i : Nat} {o : Option Value} (h : ls[i]? = some o) (hp : am_n2 o = true) : ∀ (j : Nat) (u : Option Value), j + 1 = i + 1 → ls[j]? = some u → am_n2 u = true := by
  intro j u hj hu
  have e9 : j = i := by omega
  subst e9
  rw [h] at hu
  cases hu
  exact hp
theorem am_st1 {b nL i : Nat} {ls : List (Option Value)} {la : Array Slot} (v : Value) (h : am_L b nL ls la) (hi : i < nL) (hc : v.category = 1) (hp : ∀ (j : Nat) (u : Option Value), j + 1 = i → ls[j]? = some u → am_n2 u = true) : ∃ la' : Array Slot, storeLocals la i (am_c b v) = some la' ∧ am_L b nL (ls.set i (some v)) la' := by
  obtain ⟨la', e1, h1⟩ := lv_store1 (v := am_c b v) h.1 hi (by rw [am_cat]; exact hc)
  refine ⟨la', e1, ⟨h1.1, h1.2.1, fun q hq => by cases hq⟩, by rw [List.length_set]; exact h.2.1, fun j u hj => ?_⟩
  by_cases hji : j = i
  · subst hji
    rw [List.getElem?_set_self (by rw [h.2.1]; exact hi)] at hj
    cases hj
    exact h1.2.2 (j, am_c b v) List.mem_cons_self
  · rw [List.getElem?_set_ne (fun q => hji q.symm)] at hj
    obtain ⟨la2, e2, h2⟩ := lv_store1 (v := am_c b v) (l := [(j, am_c b u)]) ⟨h.1.1, h.1.2.1, fun q hq => by rw [List.mem_singleton.mp hq]; exact h.2.2 j u hj⟩ hi (by rw [am_cat]; exact hc)
    rw [e1] at e2
    cases e2
    refine h2.2.2 (j, am_c b u) (List.mem_cons_of_mem _ (List.mem_filter.mpr ⟨List.mem_cons_self, ?_⟩))
    by_cases hj1 : j + 1 = i
    · have h3 := hp j _ hj1 hj
      simp only [am_n2, bne_iff_ne, ne_eq] at h3
      simp [hji, am_cat, h3]
    · simp [hji, hj1]
theorem am_st2 {b nL i : Nat} {ls : List (Option Value)} {la : Array Slot} (v : Value) (h : am_L b nL ls la) (hi : i + 1 < nL) (hc : v.category = 2) (hp : ∀ (j : Nat) (u : Option Value), j + 1 = i → ls[j]? = some u → am_n2 u = true) : ∃ la' : Array Slot, storeLocals la i (am_c b v) = some la' ∧ am_L b nL ((ls.set i (some v)).set (i + 1) none) la' := by
  obtain ⟨la', e1, h1⟩ := lv_store2 (v := am_c b v) h.1 hi (by rw [am_cat]; exact hc)
  refine ⟨la', e1, ⟨h1.1, h1.2.1, fun q hq => by cases hq⟩, by rw [List.length_set, List.length_set]; exact h.2.1, fun j u hj => ?_⟩
  by_cases hj1 : j = i + 1
  · subst hj1
    rw [List.getElem?_set_self (by rw [List.length_set, h.2.1]; exact hi)] at hj
    cases hj
  rw [List.getElem?_set_ne (fun q => hj1 q.symm)] at hj
  by_cases hji : j = i
  · subst hji
    rw [List.getElem?_set_self (by rw [h.2.1]; omega)] at hj
    cases hj
    exact h1.2.2 (j, am_c b v) List.mem_cons_self
  · rw [List.getElem?_set_ne (fun q => hji q.symm)] at hj
    obtain ⟨la2, e2, h2⟩ := lv_store2 (v := am_c b v) (l := [(j, am_c b u)]) ⟨h.1.1, h.1.2.1, fun q hq => by rw [List.mem_singleton.mp hq]; exact h.2.2 j u hj⟩ hi (by rw [am_cat]; exact hc)
    rw [e1] at e2
    cases e2
    refine h2.2.2 (j, am_c b u) (List.mem_cons_of_mem _ (List.mem_filter.mpr ⟨List.mem_cons_self, ?_⟩))
    by_cases hj2 : j + 1 = i
    · have h3 := hp j _ hj2 hj
      simp only [am_n2, bne_iff_ne, ne_eq] at h3
      simp [hji, hj1, am_cat, h3]
    · simp [hji, hj1, hj2]

theorem am_istore0 {x : am_X} {cc : ByteArray} {own : String} {n mc ms : Nat} (hC : am_C x cc own n mc ms) {pc k z : Nat} {h : am_H} {st : List Value} {o0 : Option Value} {tl : List (Option Value)} {v : Int} (d : decode cc pc = .ok (.istore_n 0, 1)) (kk : am_W x (pc + 1) k z h (some (vI v) :: tl) (st)) : am_W x (pc) k z h (o0 :: tl) (vI v :: st) := by
  obtain ⟨p, l, e, R, s, m, args, below, meth, c, Q, g, nL⟩ := x
  obtain ⟨hx, hb, hml, hown, hts, hI, hlk, hR⟩ := hC
  intro H locs la hH hS hL
  have hlt : 0 < nL := by have := hL.2.1; simp at this; omega
  obtain ⟨la', e1, hL'⟩ := am_st1 (i := 0) (vI v) hL hlt rfl (fun j u hj hu => by omega)
  intro T hT X
  obtain ⟨t, a1, b1⟩ := kk H locs la' hH hS hL' T hT X
  refine ⟨t, ?_, b1⟩
  have e2 : storeLocals la 0 (.int (Int32.ofInt v)) = some la' := e1
  have e3 : (vI v :: st).map (am_c g.1) = .int (Int32.ofInt v) :: st.map (am_c g.1) := rfl
  rw [e3]
  jvm_step X.here [X.here.top, ↓top_set X.here.top, hx, hb, d, e2, Value.isRef]
  exact a1

theorem am_istore1 {x : am_X} {cc : ByteArray} {own : String} {n mc ms : Nat} (hC : am_C x cc own n mc ms) {pc k z : Nat} {h : am_H} {st : List Value} {y0 o0 : Option Value} {tl : List (Option Value)} {v : Int} (d : decode cc pc = .ok (.istore_n 1, 1)) (hp : am_n2 y0 = true) (kk : am_W x (pc + 1) k z h (y0 :: some (vI v) :: tl) (st)) : am_W x (pc) k z h (y0 :: o0 :: tl) (vI v :: st) := by
  obtain ⟨p, l, e, R, s, m, args, below, meth, c, Q, g, nL⟩ := x
  obtain ⟨hx, hb, hml, hown, hts, hI, hlk, hR⟩ := hC
  intro H locs la hH hS hL
  have hlt : 1 < nL := by have := hL.2.1; simp at this; omega
  obtain ⟨la', e1, hL'⟩ := am_st1 (i := 1) (vI v) hL hlt rfl (am_hp (i := 0) rfl hp)
  intro T hT X
  obtain ⟨t, a1, b1⟩ := kk H locs la' hH hS hL' T hT X
  refine ⟨t, ?_, b1⟩
  have e2 : storeLocals la 1 (.int (Int32.ofInt v)) = some la' := e1
  have e3 : (vI v :: st).map (am_c g.1) = .int (Int32.ofInt v) :: st.map (am_c g.1) := rfl
  rw [e3]
  jvm_step X.here [X.here.top, ↓top_set X.here.top, hx, hb, d, e2, Value.isRef]
  exact a1

theorem am_istore2 {x : am_X} {cc : ByteArray} {own : String} {n mc ms : Nat} (hC : am_C x cc own n mc ms) {pc k z : Nat} {h : am_H} {st : List Value} {y0 y1 o0 : Option Value} {tl : List (Option Value)} {v : Int} (d : decode cc pc = .ok (.istore_n 2, 1)) (hp : am_n2 y1 = true) (kk : am_W x (pc + 1) k z h (y0 :: y1 :: some (vI v) :: tl) (st)) : am_W x (pc) k z h (y0 :: y1 :: o0 :: tl) (vI v :: st) := by
  obtain ⟨p, l, e, R, s, m, args, below, meth, c, Q, g, nL⟩ := x
  obtain ⟨hx, hb, hml, hown, hts, hI, hlk, hR⟩ := hC
  intro H locs la hH hS hL
  have hlt : 2 < nL := by have := hL.2.1; simp at this; omega
  obtain ⟨la', e1, hL'⟩ := am_st1 (i := 2) (vI v) hL hlt rfl (am_hp (i := 1) rfl hp)
  intro T hT X
  obtain ⟨t, a1, b1⟩ := kk H locs la' hH hS hL' T hT X
  refine ⟨t, ?_, b1⟩
  have e2 : storeLocals la 2 (.int (Int32.ofInt v)) = some la' := e1
  have e3 : (vI v :: st).map (am_c g.1) = .int (Int32.ofInt v) :: st.map (am_c g.1) := rfl
  rw [e3]
  jvm_step X.here [X.here.top, ↓top_set X.here.top, hx, hb, d, e2, Value.isRef]
  exact a1

theorem am_istore3 {x : am_X} {cc : ByteArray} {own : String} {n mc ms : Nat} (hC : am_C x cc own n mc ms) {pc k z : Nat} {h : am_H} {st : List Value} {y0 y1 y2 o0 : Option Value} {tl : List (Option Value)} {v : Int} (d : decode cc pc = .ok (.istore_n 3, 1)) (hp : am_n2 y2 = true) (kk : am_W x (pc + 1) k z h (y0 :: y1 :: y2 :: some (vI v) :: tl) (st)) : am_W x (pc) k z h (y0 :: y1 :: y2 :: o0 :: tl) (vI v :: st) := by
  obtain ⟨p, l, e, R, s, m, args, below, meth, c, Q, g, nL⟩ := x
  obtain ⟨hx, hb, hml, hown, hts, hI, hlk, hR⟩ := hC
  intro H locs la hH hS hL
  have hlt : 3 < nL := by have := hL.2.1; simp at this; omega
  obtain ⟨la', e1, hL'⟩ := am_st1 (i := 3) (vI v) hL hlt rfl (am_hp (i := 2) rfl hp)
  intro T hT X
  obtain ⟨t, a1, b1⟩ := kk H locs la' hH hS hL' T hT X
  refine ⟨t, ?_, b1⟩
  have e2 : storeLocals la 3 (.int (Int32.ofInt v)) = some la' := e1
  have e3 : (vI v :: st).map (am_c g.1) = .int (Int32.ofInt v) :: st.map (am_c g.1) := rfl
  rw [e3]
  jvm_step X.here [X.here.top, ↓top_set X.here.top, hx, hb, d, e2, Value.isRef]
  exact a1

theorem am_istore4 {x : am_X} {cc : ByteArray} {own : String} {n mc ms : Nat} (hC : am_C x cc own n mc ms) {pc k z : Nat} {h : am_H} {st : List Value} {y0 y1 y2 y3 o0 : Option Value} {tl : List (Option Value)} {v : Int} (d : decode cc pc = .ok (.istore 4, 2)) (hp : am_n2 y3 = true) (kk : am_W x (pc + 2) k z h (y0 :: y1 :: y2 :: y3 :: some (vI v) :: tl) (st)) : am_W x (pc) k z h (y0 :: y1 :: y2 :: y3 :: o0 :: tl) (vI v :: st) := by
  obtain ⟨p, l, e, R, s, m, args, below, meth, c, Q, g, nL⟩ := x
  obtain ⟨hx, hb, hml, hown, hts, hI, hlk, hR⟩ := hC
  intro H locs la hH hS hL
  have hlt : 4 < nL := by have := hL.2.1; simp at this; omega
  obtain ⟨la', e1, hL'⟩ := am_st1 (i := 4) (vI v) hL hlt rfl (am_hp (i := 3) rfl hp)
  intro T hT X
  obtain ⟨t, a1, b1⟩ := kk H locs la' hH hS hL' T hT X
  refine ⟨t, ?_, b1⟩
  have e2 : storeLocals la 4 (.int (Int32.ofInt v)) = some la' := e1
  have e3 : (vI v :: st).map (am_c g.1) = .int (Int32.ofInt v) :: st.map (am_c g.1) := rfl
  rw [e3]
  jvm_step X.here [X.here.top, ↓top_set X.here.top, hx, hb, d, e2, Value.isRef]
  exact a1

theorem am_istore5 {x : am_X} {cc : ByteArray} {own : String} {n mc ms : Nat} (hC : am_C x cc own n mc ms) {pc k z : Nat} {h : am_H} {st : List Value} {y0 y1 y2 y3 y4 o0 : Option Value} {tl : List (Option Value)} {v : Int} (d : decode cc pc = .ok (.istore 5, 2)) (hp : am_n2 y4 = true) (kk : am_W x (pc + 2) k z h (y0 :: y1 :: y2 :: y3 :: y4 :: some (vI v) :: tl) (st)) : am_W x (pc) k z h (y0 :: y1 :: y2 :: y3 :: y4 :: o0 :: tl) (vI v :: st) := by
  obtain ⟨p, l, e, R, s, m, args, below, meth, c, Q, g, nL⟩ := x
  obtain ⟨hx, hb, hml, hown, hts, hI, hlk, hR⟩ := hC
  intro H locs la hH hS hL
  have hlt : 5 < nL := by have := hL.2.1; simp at this; omega
  obtain ⟨la', e1, hL'⟩ := am_st1 (i := 5) (vI v) hL hlt rfl (am_hp (i := 4) rfl hp)
  intro T hT X
  obtain ⟨t, a1, b1⟩ := kk H locs la' hH hS hL' T hT X
  refine ⟨t, ?_, b1⟩
  have e2 : storeLocals la 5 (.int (Int32.ofInt v)) = some la' := e1
  have e3 : (vI v :: st).map (am_c g.1) = .int (Int32.ofInt v) :: st.map (am_c g.1) := rfl
  rw [e3]
  jvm_step X.here [X.here.top, ↓top_set X.here.top, hx, hb, d, e2, Value.isRef]
  exact a1

theorem am_istore6 {x : am_X} {cc : ByteArray} {own : String} {n mc ms : Nat} (hC : am_C x cc own n mc ms) {pc k z : Nat} {h : am_H} {st : List Value} {y0 y1 y2 y3 y4 y5 o0 : Option Value} {tl : List (Option Value)} {v : Int} (d : decode cc pc = .ok (.istore 6, 2)) (hp : am_n2 y5 = true) (kk : am_W x (pc + 2) k z h (y0 :: y1 :: y2 :: y3 :: y4 :: y5 :: some (vI v) :: tl) (st)) : am_W x (pc) k z h (y0 :: y1 :: y2 :: y3 :: y4 :: y5 :: o0 :: tl) (vI v :: st) := by
  obtain ⟨p, l, e, R, s, m, args, below, meth, c, Q, g, nL⟩ := x
  obtain ⟨hx, hb, hml, hown, hts, hI, hlk, hR⟩ := hC
  intro H locs la hH hS hL
  have hlt : 6 < nL := by have := hL.2.1; simp at this; omega
  obtain ⟨la', e1, hL'⟩ := am_st1 (i := 6) (vI v) hL hlt rfl (am_hp (i := 5) rfl hp)
  intro T hT X
  obtain ⟨t, a1, b1⟩ := kk H locs la' hH hS hL' T hT X
  refine ⟨t, ?_, b1⟩
  have e2 : storeLocals la 6 (.int (Int32.ofInt v)) = some la' := e1
  have e3 : (vI v :: st).map (am_c g.1) = .int (Int32.ofInt v) :: st.map (am_c g.1) := rfl
  rw [e3]
  jvm_step X.here [X.here.top, ↓top_set X.here.top, hx, hb, d, e2, Value.isRef]
  exact a1

theorem am_istore7 {x : am_X} {cc : ByteArray} {own : String} {n mc ms : Nat} (hC : am_C x cc own n mc ms) {pc k z : Nat} {h : am_H} {st : List Value} {y0 y1 y2 y3 y4 y5 y6 o0 : Option Value} {tl : List (Option Value)} {v : Int} (d : decode cc pc = .ok (.istore 7, 2)) (hp : am_n2 y6 = true) (kk : am_W x (pc + 2) k z h (y0 :: y1 :: y2 :: y3 :: y4 :: y5 :: y6 :: some (vI v) :: tl) (st)) : am_W x (pc) k z h (y0 :: y1 :: y2 :: y3 :: y4 :: y5 :: y6 :: o0 :: tl) (vI v :: st) := by
  obtain ⟨p, l, e, R, s, m, args, below, meth, c, Q, g, nL⟩ := x
  obtain ⟨hx, hb, hml, hown, hts, hI, hlk, hR⟩ := hC
  intro H locs la hH hS hL
  have hlt : 7 < nL := by have := hL.2.1; simp at this; omega
  obtain ⟨la', e1, hL'⟩ := am_st1 (i := 7) (vI v) hL hlt rfl (am_hp (i := 6) rfl hp)
  intro T hT X
  obtain ⟨t, a1, b1⟩ := kk H locs la' hH hS hL' T hT X
  refine ⟨t, ?_, b1⟩
  have e2 : storeLocals la 7 (.int (Int32.ofInt v)) = some la' := e1
  have e3 : (vI v :: st).map (am_c g.1) = .int (Int32.ofInt v) :: st.map (am_c g.1) := rfl
  rw [e3]
  jvm_step X.here [X.here.top, ↓top_set X.here.top, hx, hb, d, e2, Value.isRef]
  exact a1

theorem am_istore8 {x : am_X} {cc : ByteArray} {own : String} {n mc ms : Nat} (hC : am_C x cc own n mc ms) {pc k z : Nat} {h : am_H} {st : List Value} {y0 y1 y2 y3 y4 y5 y6 y7 o0 : Option Value} {tl : List (Option Value)} {v : Int} (d : decode cc pc = .ok (.istore 8, 2)) (hp : am_n2 y7 = true) (kk : am_W x (pc + 2) k z h (y0 :: y1 :: y2 :: y3 :: y4 :: y5 :: y6 :: y7 :: some (vI v) :: tl) (st)) : am_W x (pc) k z h (y0 :: y1 :: y2 :: y3 :: y4 :: y5 :: y6 :: y7 :: o0 :: tl) (vI v :: st) := by
  obtain ⟨p, l, e, R, s, m, args, below, meth, c, Q, g, nL⟩ := x
  obtain ⟨hx, hb, hml, hown, hts, hI, hlk, hR⟩ := hC
  intro H locs la hH hS hL
  have hlt : 8 < nL := by have := hL.2.1; simp at this; omega
  obtain ⟨la', e1, hL'⟩ := am_st1 (i := 8) (vI v) hL hlt rfl (am_hp (i := 7) rfl hp)
  intro T hT X
  obtain ⟨t, a1, b1⟩ := kk H locs la' hH hS hL' T hT X
  refine ⟨t, ?_, b1⟩
  have e2 : storeLocals la 8 (.int (Int32.ofInt v)) = some la' := e1
  have e3 : (vI v :: st).map (am_c g.1) = .int (Int32.ofInt v) :: st.map (am_c g.1) := rfl
  rw [e3]
  jvm_step X.here [X.here.top, ↓top_set X.here.top, hx, hb, d, e2, Value.isRef]
  exact a1

theorem am_istore9 {x : am_X} {cc : ByteArray} {own : String} {n mc ms : Nat} (hC : am_C x cc own n mc ms) {pc k z : Nat} {h : am_H} {st : List Value} {y0 y1 y2 y3 y4 y5 y6 y7 y8 o0 : Option Value} {tl : List (Option Value)} {v : Int} (d : decode cc pc = .ok (.istore 9, 2)) (hp : am_n2 y8 = true) (kk : am_W x (pc + 2) k z h (y0 :: y1 :: y2 :: y3 :: y4 :: y5 :: y6 :: y7 :: y8 :: some (vI v) :: tl) (st)) : am_W x (pc) k z h (y0 :: y1 :: y2 :: y3 :: y4 :: y5 :: y6 :: y7 :: y8 :: o0 :: tl) (vI v :: st) := by
  obtain ⟨p, l, e, R, s, m, args, below, meth, c, Q, g, nL⟩ := x
  obtain ⟨hx, hb, hml, hown, hts, hI, hlk, hR⟩ := hC
  intro H locs la hH hS hL
  have hlt : 9 < nL := by have := hL.2.1; simp at this; omega
  obtain ⟨la', e1, hL'⟩ := am_st1 (i := 9) (vI v) hL hlt rfl (am_hp (i := 8) rfl hp)
  intro T hT X
  obtain ⟨t, a1, b1⟩ := kk H locs la' hH hS hL' T hT X
  refine ⟨t, ?_, b1⟩
  have e2 : storeLocals la 9 (.int (Int32.ofInt v)) = some la' := e1
  have e3 : (vI v :: st).map (am_c g.1) = .int (Int32.ofInt v) :: st.map (am_c g.1) := rfl
  rw [e3]
  jvm_step X.here [X.here.top, ↓top_set X.here.top, hx, hb, d, e2, Value.isRef]
  exact a1

theorem am_istore10 {x : am_X} {cc : ByteArray} {own : String} {n mc ms : Nat} (hC : am_C x cc own n mc ms) {pc k z : Nat} {h : am_H} {st : List Value} {y0 y1 y2 y3 y4 y5 y6 y7 y8 y9 o0 : Option Value} {tl : List (Option Value)} {v : Int} (d : decode cc pc = .ok (.istore 10, 2)) (hp : am_n2 y9 = true) (kk : am_W x (pc + 2) k z h (y0 :: y1 :: y2 :: y3 :: y4 :: y5 :: y6 :: y7 :: y8 :: y9 :: some (vI v) :: tl) (st)) : am_W x (pc) k z h (y0 :: y1 :: y2 :: y3 :: y4 :: y5 :: y6 :: y7 :: y8 :: y9 :: o0 :: tl) (vI v :: st) := by
  obtain ⟨p, l, e, R, s, m, args, below, meth, c, Q, g, nL⟩ := x
  obtain ⟨hx, hb, hml, hown, hts, hI, hlk, hR⟩ := hC
  intro H locs la hH hS hL
  have hlt : 10 < nL := by have := hL.2.1; simp at this; omega
  obtain ⟨la', e1, hL'⟩ := am_st1 (i := 10) (vI v) hL hlt rfl (am_hp (i := 9) rfl hp)
  intro T hT X
  obtain ⟨t, a1, b1⟩ := kk H locs la' hH hS hL' T hT X
  refine ⟨t, ?_, b1⟩
  have e2 : storeLocals la 10 (.int (Int32.ofInt v)) = some la' := e1
  have e3 : (vI v :: st).map (am_c g.1) = .int (Int32.ofInt v) :: st.map (am_c g.1) := rfl
  rw [e3]
  jvm_step X.here [X.here.top, ↓top_set X.here.top, hx, hb, d, e2, Value.isRef]
  exact a1

theorem am_istore11 {x : am_X} {cc : ByteArray} {own : String} {n mc ms : Nat} (hC : am_C x cc own n mc ms) {pc k z : Nat} {h : am_H} {st : List Value} {y0 y1 y2 y3 y4 y5 y6 y7 y8 y9 y10 o0 : Option Value} {tl : List (Option Value)} {v : Int} (d : decode cc pc = .ok (.istore 11, 2)) (hp : am_n2 y10 = true) (kk : am_W x (pc + 2) k z h (y0 :: y1 :: y2 :: y3 :: y4 :: y5 :: y6 :: y7 :: y8 :: y9 :: y10 :: some (vI v) :: tl) (st)) : am_W x (pc) k z h (y0 :: y1 :: y2 :: y3 :: y4 :: y5 :: y6 :: y7 :: y8 :: y9 :: y10 :: o0 :: tl) (vI v :: st) := by
  obtain ⟨p, l, e, R, s, m, args, below, meth, c, Q, g, nL⟩ := x
  obtain ⟨hx, hb, hml, hown, hts, hI, hlk, hR⟩ := hC
  intro H locs la hH hS hL
  have hlt : 11 < nL := by have := hL.2.1; simp at this; omega
  obtain ⟨la', e1, hL'⟩ := am_st1 (i := 11) (vI v) hL hlt rfl (am_hp (i := 10) rfl hp)
  intro T hT X
  obtain ⟨t, a1, b1⟩ := kk H locs la' hH hS hL' T hT X
  refine ⟨t, ?_, b1⟩
  have e2 : storeLocals la 11 (.int (Int32.ofInt v)) = some la' := e1
  have e3 : (vI v :: st).map (am_c g.1) = .int (Int32.ofInt v) :: st.map (am_c g.1) := rfl
  rw [e3]
  jvm_step X.here [X.here.top, ↓top_set X.here.top, hx, hb, d, e2, Value.isRef]
  exact a1

theorem am_istore12 {x : am_X} {cc : ByteArray} {own : String} {n mc ms : Nat} (hC : am_C x cc own n mc ms) {pc k z : Nat} {h : am_H} {st : List Value} {y0 y1 y2 y3 y4 y5 y6 y7 y8 y9 y10 y11 o0 : Option Value} {tl : List (Option Value)} {v : Int} (d : decode cc pc = .ok (.istore 12, 2)) (hp : am_n2 y11 = true) (kk : am_W x (pc + 2) k z h (y0 :: y1 :: y2 :: y3 :: y4 :: y5 :: y6 :: y7 :: y8 :: y9 :: y10 :: y11 :: some (vI v) :: tl) (st)) : am_W x (pc) k z h (y0 :: y1 :: y2 :: y3 :: y4 :: y5 :: y6 :: y7 :: y8 :: y9 :: y10 :: y11 :: o0 :: tl) (vI v :: st) := by
  obtain ⟨p, l, e, R, s, m, args, below, meth, c, Q, g, nL⟩ := x
  obtain ⟨hx, hb, hml, hown, hts, hI, hlk, hR⟩ := hC
  intro H locs la hH hS hL
  have hlt : 12 < nL := by have := hL.2.1; simp at this; omega
  obtain ⟨la', e1, hL'⟩ := am_st1 (i := 12) (vI v) hL hlt rfl (am_hp (i := 11) rfl hp)
  intro T hT X
  obtain ⟨t, a1, b1⟩ := kk H locs la' hH hS hL' T hT X
  refine ⟨t, ?_, b1⟩
  have e2 : storeLocals la 12 (.int (Int32.ofInt v)) = some la' := e1
  have e3 : (vI v :: st).map (am_c g.1) = .int (Int32.ofInt v) :: st.map (am_c g.1) := rfl
  rw [e3]
  jvm_step X.here [X.here.top, ↓top_set X.here.top, hx, hb, d, e2, Value.isRef]
  exact a1

theorem am_istore13 {x : am_X} {cc : ByteArray} {own : String} {n mc ms : Nat} (hC : am_C x cc own n mc ms) {pc k z : Nat} {h : am_H} {st : List Value} {y0 y1 y2 y3 y4 y5 y6 y7 y8 y9 y10 y11 y12 o0 : Option Value} {tl : List (Option Value)} {v : Int} (d : decode cc pc = .ok (.istore 13, 2)) (hp : am_n2 y12 = true) (kk : am_W x (pc + 2) k z h (y0 :: y1 :: y2 :: y3 :: y4 :: y5 :: y6 :: y7 :: y8 :: y9 :: y10 :: y11 :: y12 :: some (vI v) :: tl) (st)) : am_W x (pc) k z h (y0 :: y1 :: y2 :: y3 :: y4 :: y5 :: y6 :: y7 :: y8 :: y9 :: y10 :: y11 :: y12 :: o0 :: tl) (vI v :: st) := by
  obtain ⟨p, l, e, R, s, m, args, below, meth, c, Q, g, nL⟩ := x
  obtain ⟨hx, hb, hml, hown, hts, hI, hlk, hR⟩ := hC
  intro H locs la hH hS hL
  have hlt : 13 < nL := by have := hL.2.1; simp at this; omega
  obtain ⟨la', e1, hL'⟩ := am_st1 (i := 13) (vI v) hL hlt rfl (am_hp (i := 12) rfl hp)
  intro T hT X
  obtain ⟨t, a1, b1⟩ := kk H locs la' hH hS hL' T hT X
  refine ⟨t, ?_, b1⟩
  have e2 : storeLocals la 13 (.int (Int32.ofInt v)) = some la' := e1
  have e3 : (vI v :: st).map (am_c g.1) = .int (Int32.ofInt v) :: st.map (am_c g.1) := rfl
  rw [e3]
  jvm_step X.here [X.here.top, ↓top_set X.here.top, hx, hb, d, e2, Value.isRef]
  exact a1

theorem am_istore14 {x : am_X} {cc : ByteArray} {own : String} {n mc ms : Nat} (hC : am_C x cc own n mc ms) {pc k z : Nat} {h : am_H} {st : List Value} {y0 y1 y2 y3 y4 y5 y6 y7 y8 y9 y10 y11 y12 y13 o0 : Option Value} {tl : List (Option Value)} {v : Int} (d : decode cc pc = .ok (.istore 14, 2)) (hp : am_n2 y13 = true) (kk : am_W x (pc + 2) k z h (y0 :: y1 :: y2 :: y3 :: y4 :: y5 :: y6 :: y7 :: y8 :: y9 :: y10 :: y11 :: y12 :: y13 :: some (vI v) :: tl) (st)) : am_W x (pc) k z h (y0 :: y1 :: y2 :: y3 :: y4 :: y5 :: y6 :: y7 :: y8 :: y9 :: y10 :: y11 :: y12 :: y13 :: o0 :: tl) (vI v :: st) := by
  obtain ⟨p, l, e, R, s, m, args, below, meth, c, Q, g, nL⟩ := x
  obtain ⟨hx, hb, hml, hown, hts, hI, hlk, hR⟩ := hC
  intro H locs la hH hS hL
  have hlt : 14 < nL := by have := hL.2.1; simp at this; omega
  obtain ⟨la', e1, hL'⟩ := am_st1 (i := 14) (vI v) hL hlt rfl (am_hp (i := 13) rfl hp)
  intro T hT X
  obtain ⟨t, a1, b1⟩ := kk H locs la' hH hS hL' T hT X
  refine ⟨t, ?_, b1⟩
  have e2 : storeLocals la 14 (.int (Int32.ofInt v)) = some la' := e1
  have e3 : (vI v :: st).map (am_c g.1) = .int (Int32.ofInt v) :: st.map (am_c g.1) := rfl
  rw [e3]
  jvm_step X.here [X.here.top, ↓top_set X.here.top, hx, hb, d, e2, Value.isRef]
  exact a1

theorem am_istore15 {x : am_X} {cc : ByteArray} {own : String} {n mc ms : Nat} (hC : am_C x cc own n mc ms) {pc k z : Nat} {h : am_H} {st : List Value} {y0 y1 y2 y3 y4 y5 y6 y7 y8 y9 y10 y11 y12 y13 y14 o0 : Option Value} {tl : List (Option Value)} {v : Int} (d : decode cc pc = .ok (.istore 15, 2)) (hp : am_n2 y14 = true) (kk : am_W x (pc + 2) k z h (y0 :: y1 :: y2 :: y3 :: y4 :: y5 :: y6 :: y7 :: y8 :: y9 :: y10 :: y11 :: y12 :: y13 :: y14 :: some (vI v) :: tl) (st)) : am_W x (pc) k z h (y0 :: y1 :: y2 :: y3 :: y4 :: y5 :: y6 :: y7 :: y8 :: y9 :: y10 :: y11 :: y12 :: y13 :: y14 :: o0 :: tl) (vI v :: st) := by
  obtain ⟨p, l, e, R, s, m, args, below, meth, c, Q, g, nL⟩ := x
  obtain ⟨hx, hb, hml, hown, hts, hI, hlk, hR⟩ := hC
  intro H locs la hH hS hL
  have hlt : 15 < nL := by have := hL.2.1; simp at this; omega
  obtain ⟨la', e1, hL'⟩ := am_st1 (i := 15) (vI v) hL hlt rfl (am_hp (i := 14) rfl hp)
  intro T hT X
  obtain ⟨t, a1, b1⟩ := kk H locs la' hH hS hL' T hT X
  refine ⟨t, ?_, b1⟩
  have e2 : storeLocals la 15 (.int (Int32.ofInt v)) = some la' := e1
  have e3 : (vI v :: st).map (am_c g.1) = .int (Int32.ofInt v) :: st.map (am_c g.1) := rfl
  rw [e3]
  jvm_step X.here [X.here.top, ↓top_set X.here.top, hx, hb, d, e2, Value.isRef]
  exact a1

theorem am_lstore0 {x : am_X} {cc : ByteArray} {own : String} {n mc ms : Nat} (hC : am_C x cc own n mc ms) {pc k z : Nat} {h : am_H} {st : List Value} {o0 o1 : Option Value} {tl : List (Option Value)} {v : Int} (d : decode cc pc = .ok (.lstore_n 0, 1)) (kk : am_W x (pc + 1) k z h (some (vL v) :: none :: tl) (st)) : am_W x (pc) k z h (o0 :: o1 :: tl) (vL v :: st) := by
  obtain ⟨p, l, e, R, s, m, args, below, meth, c, Q, g, nL⟩ := x
  obtain ⟨hx, hb, hml, hown, hts, hI, hlk, hR⟩ := hC
  intro H locs la hH hS hL
  have hlt : 1 < nL := by have := hL.2.1; simp at this; omega
  obtain ⟨la', e1, hL'⟩ := am_st2 (i := 0) (vL v) hL hlt rfl (fun j u hj hu => by omega)
  intro T hT X
  obtain ⟨t, a1, b1⟩ := kk H locs la' hH hS hL' T hT X
  refine ⟨t, ?_, b1⟩
  have e2 : storeLocals la 0 (.long (Int64.ofInt v)) = some la' := e1
  have e3 : (vL v :: st).map (am_c g.1) = .long (Int64.ofInt v) :: st.map (am_c g.1) := rfl
  rw [e3]
  jvm_step X.here [X.here.top, ↓top_set X.here.top, hx, hb, d, e2, Value.isRef]
  exact a1

theorem am_lstore1 {x : am_X} {cc : ByteArray} {own : String} {n mc ms : Nat} (hC : am_C x cc own n mc ms) {pc k z : Nat} {h : am_H} {st : List Value} {y0 o0 o1 : Option Value} {tl : List (Option Value)} {v : Int} (d : decode cc pc = .ok (.lstore_n 1, 1)) (hp : am_n2 y0 = true) (kk : am_W x (pc + 1) k z h (y0 :: some (vL v) :: none :: tl) (st)) : am_W x (pc) k z h (y0 :: o0 :: o1 :: tl) (vL v :: st) := by
  obtain ⟨p, l, e, R, s, m, args, below, meth, c, Q, g, nL⟩ := x
  obtain ⟨hx, hb, hml, hown, hts, hI, hlk, hR⟩ := hC
  intro H locs la hH hS hL
  have hlt : 2 < nL := by have := hL.2.1; simp at this; omega
  obtain ⟨la', e1, hL'⟩ := am_st2 (i := 1) (vL v) hL hlt rfl (am_hp (i := 0) rfl hp)
  intro T hT X
  obtain ⟨t, a1, b1⟩ := kk H locs la' hH hS hL' T hT X
  refine ⟨t, ?_, b1⟩
  have e2 : storeLocals la 1 (.long (Int64.ofInt v)) = some la' := e1
  have e3 : (vL v :: st).map (am_c g.1) = .long (Int64.ofInt v) :: st.map (am_c g.1) := rfl
  rw [e3]
  jvm_step X.here [X.here.top, ↓top_set X.here.top, hx, hb, d, e2, Value.isRef]
  exact a1

theorem am_lstore2 {x : am_X} {cc : ByteArray} {own : String} {n mc ms : Nat} (hC : am_C x cc own n mc ms) {pc k z : Nat} {h : am_H} {st : List Value} {y0 y1 o0 o1 : Option Value} {tl : List (Option Value)} {v : Int} (d : decode cc pc = .ok (.lstore_n 2, 1)) (hp : am_n2 y1 = true) (kk : am_W x (pc + 1) k z h (y0 :: y1 :: some (vL v) :: none :: tl) (st)) : am_W x (pc) k z h (y0 :: y1 :: o0 :: o1 :: tl) (vL v :: st) := by
  obtain ⟨p, l, e, R, s, m, args, below, meth, c, Q, g, nL⟩ := x
  obtain ⟨hx, hb, hml, hown, hts, hI, hlk, hR⟩ := hC
  intro H locs la hH hS hL
  have hlt : 3 < nL := by have := hL.2.1; simp at this; omega
  obtain ⟨la', e1, hL'⟩ := am_st2 (i := 2) (vL v) hL hlt rfl (am_hp (i := 1) rfl hp)
  intro T hT X
  obtain ⟨t, a1, b1⟩ := kk H locs la' hH hS hL' T hT X
  refine ⟨t, ?_, b1⟩
  have e2 : storeLocals la 2 (.long (Int64.ofInt v)) = some la' := e1
  have e3 : (vL v :: st).map (am_c g.1) = .long (Int64.ofInt v) :: st.map (am_c g.1) := rfl
  rw [e3]
  jvm_step X.here [X.here.top, ↓top_set X.here.top, hx, hb, d, e2, Value.isRef]
  exact a1

theorem am_lstore3 {x : am_X} {cc : ByteArray} {own : String} {n mc ms : Nat} (hC : am_C x cc own n mc ms) {pc k z : Nat} {h : am_H} {st : List Value} {y0 y1 y2 o0 o1 : Option Value} {tl : List (Option Value)} {v : Int} (d : decode cc pc = .ok (.lstore_n 3, 1)) (hp : am_n2 y2 = true) (kk : am_W x (pc + 1) k z h (y0 :: y1 :: y2 :: some (vL v) :: none :: tl) (st)) : am_W x (pc) k z h (y0 :: y1 :: y2 :: o0 :: o1 :: tl) (vL v :: st) := by
  obtain ⟨p, l, e, R, s, m, args, below, meth, c, Q, g, nL⟩ := x
  obtain ⟨hx, hb, hml, hown, hts, hI, hlk, hR⟩ := hC
  intro H locs la hH hS hL
  have hlt : 4 < nL := by have := hL.2.1; simp at this; omega
  obtain ⟨la', e1, hL'⟩ := am_st2 (i := 3) (vL v) hL hlt rfl (am_hp (i := 2) rfl hp)
  intro T hT X
  obtain ⟨t, a1, b1⟩ := kk H locs la' hH hS hL' T hT X
  refine ⟨t, ?_, b1⟩
  have e2 : storeLocals la 3 (.long (Int64.ofInt v)) = some la' := e1
  have e3 : (vL v :: st).map (am_c g.1) = .long (Int64.ofInt v) :: st.map (am_c g.1) := rfl
  rw [e3]
  jvm_step X.here [X.here.top, ↓top_set X.here.top, hx, hb, d, e2, Value.isRef]
  exact a1

theorem am_lstore4 {x : am_X} {cc : ByteArray} {own : String} {n mc ms : Nat} (hC : am_C x cc own n mc ms) {pc k z : Nat} {h : am_H} {st : List Value} {y0 y1 y2 y3 o0 o1 : Option Value} {tl : List (Option Value)} {v : Int} (d : decode cc pc = .ok (.lstore 4, 2)) (hp : am_n2 y3 = true) (kk : am_W x (pc + 2) k z h (y0 :: y1 :: y2 :: y3 :: some (vL v) :: none :: tl) (st)) : am_W x (pc) k z h (y0 :: y1 :: y2 :: y3 :: o0 :: o1 :: tl) (vL v :: st) := by
  obtain ⟨p, l, e, R, s, m, args, below, meth, c, Q, g, nL⟩ := x
  obtain ⟨hx, hb, hml, hown, hts, hI, hlk, hR⟩ := hC
  intro H locs la hH hS hL
  have hlt : 5 < nL := by have := hL.2.1; simp at this; omega
  obtain ⟨la', e1, hL'⟩ := am_st2 (i := 4) (vL v) hL hlt rfl (am_hp (i := 3) rfl hp)
  intro T hT X
  obtain ⟨t, a1, b1⟩ := kk H locs la' hH hS hL' T hT X
  refine ⟨t, ?_, b1⟩
  have e2 : storeLocals la 4 (.long (Int64.ofInt v)) = some la' := e1
  have e3 : (vL v :: st).map (am_c g.1) = .long (Int64.ofInt v) :: st.map (am_c g.1) := rfl
  rw [e3]
  jvm_step X.here [X.here.top, ↓top_set X.here.top, hx, hb, d, e2, Value.isRef]
  exact a1

theorem am_lstore5 {x : am_X} {cc : ByteArray} {own : String} {n mc ms : Nat} (hC : am_C x cc own n mc ms) {pc k z : Nat} {h : am_H} {st : List Value} {y0 y1 y2 y3 y4 o0 o1 : Option Value} {tl : List (Option Value)} {v : Int} (d : decode cc pc = .ok (.lstore 5, 2)) (hp : am_n2 y4 = true) (kk : am_W x (pc + 2) k z h (y0 :: y1 :: y2 :: y3 :: y4 :: some (vL v) :: none :: tl) (st)) : am_W x (pc) k z h (y0 :: y1 :: y2 :: y3 :: y4 :: o0 :: o1 :: tl) (vL v :: st) := by
  obtain ⟨p, l, e, R, s, m, args, below, meth, c, Q, g, nL⟩ := x
  obtain ⟨hx, hb, hml, hown, hts, hI, hlk, hR⟩ := hC
  intro H locs la hH hS hL
  have hlt : 6 < nL := by have := hL.2.1; simp at this; omega
  obtain ⟨la', e1, hL'⟩ := am_st2 (i := 5) (vL v) hL hlt rfl (am_hp (i := 4) rfl hp)
  intro T hT X
  obtain ⟨t, a1, b1⟩ := kk H locs la' hH hS hL' T hT X
  refine ⟨t, ?_, b1⟩
  have e2 : storeLocals la 5 (.long (Int64.ofInt v)) = some la' := e1
  have e3 : (vL v :: st).map (am_c g.1) = .long (Int64.ofInt v) :: st.map (am_c g.1) := rfl
  rw [e3]
  jvm_step X.here [X.here.top, ↓top_set X.here.top, hx, hb, d, e2, Value.isRef]
  exact a1

theorem am_lstore6 {x : am_X} {cc : ByteArray} {own : String} {n mc ms : Nat} (hC : am_C x cc own n mc ms) {pc k z : Nat} {h : am_H} {st : List Value} {y0 y1 y2 y3 y4 y5 o0 o1 : Option Value} {tl : List (Option Value)} {v : Int} (d : decode cc pc = .ok (.lstore 6, 2)) (hp : am_n2 y5 = true) (kk : am_W x (pc + 2) k z h (y0 :: y1 :: y2 :: y3 :: y4 :: y5 :: some (vL v) :: none :: tl) (st)) : am_W x (pc) k z h (y0 :: y1 :: y2 :: y3 :: y4 :: y5 :: o0 :: o1 :: tl) (vL v :: st) := by
  obtain ⟨p, l, e, R, s, m, args, below, meth, c, Q, g, nL⟩ := x
  obtain ⟨hx, hb, hml, hown, hts, hI, hlk, hR⟩ := hC
  intro H locs la hH hS hL
  have hlt : 7 < nL := by have := hL.2.1; simp at this; omega
  obtain ⟨la', e1, hL'⟩ := am_st2 (i := 6) (vL v) hL hlt rfl (am_hp (i := 5) rfl hp)
  intro T hT X
  obtain ⟨t, a1, b1⟩ := kk H locs la' hH hS hL' T hT X
  refine ⟨t, ?_, b1⟩
  have e2 : storeLocals la 6 (.long (Int64.ofInt v)) = some la' := e1
  have e3 : (vL v :: st).map (am_c g.1) = .long (Int64.ofInt v) :: st.map (am_c g.1) := rfl
  rw [e3]
  jvm_step X.here [X.here.top, ↓top_set X.here.top, hx, hb, d, e2, Value.isRef]
  exact a1

theorem am_lstore7 {x : am_X} {cc : ByteArray} {own : String} {n mc ms : Nat} (hC : am_C x cc own n mc ms) {pc k z : Nat} {h : am_H} {st : List Value} {y0 y1 y2 y3 y4 y5 y6 o0 o1 : Option Value} {tl : List (Option Value)} {v : Int} (d : decode cc pc = .ok (.lstore 7, 2)) (hp : am_n2 y6 = true) (kk : am_W x (pc + 2) k z h (y0 :: y1 :: y2 :: y3 :: y4 :: y5 :: y6 :: some (vL v) :: none :: tl) (st)) : am_W x (pc) k z h (y0 :: y1 :: y2 :: y3 :: y4 :: y5 :: y6 :: o0 :: o1 :: tl) (vL v :: st) := by
  obtain ⟨p, l, e, R, s, m, args, below, meth, c, Q, g, nL⟩ := x
  obtain ⟨hx, hb, hml, hown, hts, hI, hlk, hR⟩ := hC
  intro H locs la hH hS hL
  have hlt : 8 < nL := by have := hL.2.1; simp at this; omega
  obtain ⟨la', e1, hL'⟩ := am_st2 (i := 7) (vL v) hL hlt rfl (am_hp (i := 6) rfl hp)
  intro T hT X
  obtain ⟨t, a1, b1⟩ := kk H locs la' hH hS hL' T hT X
  refine ⟨t, ?_, b1⟩
  have e2 : storeLocals la 7 (.long (Int64.ofInt v)) = some la' := e1
  have e3 : (vL v :: st).map (am_c g.1) = .long (Int64.ofInt v) :: st.map (am_c g.1) := rfl
  rw [e3]
  jvm_step X.here [X.here.top, ↓top_set X.here.top, hx, hb, d, e2, Value.isRef]
  exact a1

theorem am_lstore8 {x : am_X} {cc : ByteArray} {own : String} {n mc ms : Nat} (hC : am_C x cc own n mc ms) {pc k z : Nat} {h : am_H} {st : List Value} {y0 y1 y2 y3 y4 y5 y6 y7 o0 o1 : Option Value} {tl : List (Option Value)} {v : Int} (d : decode cc pc = .ok (.lstore 8, 2)) (hp : am_n2 y7 = true) (kk : am_W x (pc + 2) k z h (y0 :: y1 :: y2 :: y3 :: y4 :: y5 :: y6 :: y7 :: some (vL v) :: none :: tl) (st)) : am_W x (pc) k z h (y0 :: y1 :: y2 :: y3 :: y4 :: y5 :: y6 :: y7 :: o0 :: o1 :: tl) (vL v :: st) := by
  obtain ⟨p, l, e, R, s, m, args, below, meth, c, Q, g, nL⟩ := x
  obtain ⟨hx, hb, hml, hown, hts, hI, hlk, hR⟩ := hC
  intro H locs la hH hS hL
  have hlt : 9 < nL := by have := hL.2.1; simp at this; omega
  obtain ⟨la', e1, hL'⟩ := am_st2 (i := 8) (vL v) hL hlt rfl (am_hp (i := 7) rfl hp)
  intro T hT X
  obtain ⟨t, a1, b1⟩ := kk H locs la' hH hS hL' T hT X
  refine ⟨t, ?_, b1⟩
  have e2 : storeLocals la 8 (.long (Int64.ofInt v)) = some la' := e1
  have e3 : (vL v :: st).map (am_c g.1) = .long (Int64.ofInt v) :: st.map (am_c g.1) := rfl
  rw [e3]
  jvm_step X.here [X.here.top, ↓top_set X.here.top, hx, hb, d, e2, Value.isRef]
  exact a1

theorem am_lstore9 {x : am_X} {cc : ByteArray} {own : String} {n mc ms : Nat} (hC : am_C x cc own n mc ms) {pc k z : Nat} {h : am_H} {st : List Value} {y0 y1 y2 y3 y4 y5 y6 y7 y8 o0 o1 : Option Value} {tl : List (Option Value)} {v : Int} (d : decode cc pc = .ok (.lstore 9, 2)) (hp : am_n2 y8 = true) (kk : am_W x (pc + 2) k z h (y0 :: y1 :: y2 :: y3 :: y4 :: y5 :: y6 :: y7 :: y8 :: some (vL v) :: none :: tl) (st)) : am_W x (pc) k z h (y0 :: y1 :: y2 :: y3 :: y4 :: y5 :: y6 :: y7 :: y8 :: o0 :: o1 :: tl) (vL v :: st) := by
  obtain ⟨p, l, e, R, s, m, args, below, meth, c, Q, g, nL⟩ := x
  obtain ⟨hx, hb, hml, hown, hts, hI, hlk, hR⟩ := hC
  intro H locs la hH hS hL
  have hlt : 10 < nL := by have := hL.2.1; simp at this; omega
  obtain ⟨la', e1, hL'⟩ := am_st2 (i := 9) (vL v) hL hlt rfl (am_hp (i := 8) rfl hp)
  intro T hT X
  obtain ⟨t, a1, b1⟩ := kk H locs la' hH hS hL' T hT X
  refine ⟨t, ?_, b1⟩
  have e2 : storeLocals la 9 (.long (Int64.ofInt v)) = some la' := e1
  have e3 : (vL v :: st).map (am_c g.1) = .long (Int64.ofInt v) :: st.map (am_c g.1) := rfl
  rw [e3]
  jvm_step X.here [X.here.top, ↓top_set X.here.top, hx, hb, d, e2, Value.isRef]
  exact a1

theorem am_lstore10 {x : am_X} {cc : ByteArray} {own : String} {n mc ms : Nat} (hC : am_C x cc own n mc ms) {pc k z : Nat} {h : am_H} {st : List Value} {y0 y1 y2 y3 y4 y5 y6 y7 y8 y9 o0 o1 : Option Value} {tl : List (Option Value)} {v : Int} (d : decode cc pc = .ok (.lstore 10, 2)) (hp : am_n2 y9 = true) (kk : am_W x (pc + 2) k z h (y0 :: y1 :: y2 :: y3 :: y4 :: y5 :: y6 :: y7 :: y8 :: y9 :: some (vL v) :: none :: tl) (st)) : am_W x (pc) k z h (y0 :: y1 :: y2 :: y3 :: y4 :: y5 :: y6 :: y7 :: y8 :: y9 :: o0 :: o1 :: tl) (vL v :: st) := by
  obtain ⟨p, l, e, R, s, m, args, below, meth, c, Q, g, nL⟩ := x
  obtain ⟨hx, hb, hml, hown, hts, hI, hlk, hR⟩ := hC
  intro H locs la hH hS hL
  have hlt : 11 < nL := by have := hL.2.1; simp at this; omega
  obtain ⟨la', e1, hL'⟩ := am_st2 (i := 10) (vL v) hL hlt rfl (am_hp (i := 9) rfl hp)
  intro T hT X
  obtain ⟨t, a1, b1⟩ := kk H locs la' hH hS hL' T hT X
  refine ⟨t, ?_, b1⟩
  have e2 : storeLocals la 10 (.long (Int64.ofInt v)) = some la' := e1
  have e3 : (vL v :: st).map (am_c g.1) = .long (Int64.ofInt v) :: st.map (am_c g.1) := rfl
  rw [e3]
  jvm_step X.here [X.here.top, ↓top_set X.here.top, hx, hb, d, e2, Value.isRef]
  exact a1

theorem am_lstore11 {x : am_X} {cc : ByteArray} {own : String} {n mc ms : Nat} (hC : am_C x cc own n mc ms) {pc k z : Nat} {h : am_H} {st : List Value} {y0 y1 y2 y3 y4 y5 y6 y7 y8 y9 y10 o0 o1 : Option Value} {tl : List (Option Value)} {v : Int} (d : decode cc pc = .ok (.lstore 11, 2)) (hp : am_n2 y10 = true) (kk : am_W x (pc + 2) k z h (y0 :: y1 :: y2 :: y3 :: y4 :: y5 :: y6 :: y7 :: y8 :: y9 :: y10 :: some (vL v) :: none :: tl) (st)) : am_W x (pc) k z h (y0 :: y1 :: y2 :: y3 :: y4 :: y5 :: y6 :: y7 :: y8 :: y9 :: y10 :: o0 :: o1 :: tl) (vL v :: st) := by
  obtain ⟨p, l, e, R, s, m, args, below, meth, c, Q, g, nL⟩ := x
  obtain ⟨hx, hb, hml, hown, hts, hI, hlk, hR⟩ := hC
  intro H locs la hH hS hL
  have hlt : 12 < nL := by have := hL.2.1; simp at this; omega
  obtain ⟨la', e1, hL'⟩ := am_st2 (i := 11) (vL v) hL hlt rfl (am_hp (i := 10) rfl hp)
  intro T hT X
  obtain ⟨t, a1, b1⟩ := kk H locs la' hH hS hL' T hT X
  refine ⟨t, ?_, b1⟩
  have e2 : storeLocals la 11 (.long (Int64.ofInt v)) = some la' := e1
  have e3 : (vL v :: st).map (am_c g.1) = .long (Int64.ofInt v) :: st.map (am_c g.1) := rfl
  rw [e3]
  jvm_step X.here [X.here.top, ↓top_set X.here.top, hx, hb, d, e2, Value.isRef]
  exact a1

theorem am_lstore12 {x : am_X} {cc : ByteArray} {own : String} {n mc ms : Nat} (hC : am_C x cc own n mc ms) {pc k z : Nat} {h : am_H} {st : List Value} {y0 y1 y2 y3 y4 y5 y6 y7 y8 y9 y10 y11 o0 o1 : Option Value} {tl : List (Option Value)} {v : Int} (d : decode cc pc = .ok (.lstore 12, 2)) (hp : am_n2 y11 = true) (kk : am_W x (pc + 2) k z h (y0 :: y1 :: y2 :: y3 :: y4 :: y5 :: y6 :: y7 :: y8 :: y9 :: y10 :: y11 :: some (vL v) :: none :: tl) (st)) : am_W x (pc) k z h (y0 :: y1 :: y2 :: y3 :: y4 :: y5 :: y6 :: y7 :: y8 :: y9 :: y10 :: y11 :: o0 :: o1 :: tl) (vL v :: st) := by
  obtain ⟨p, l, e, R, s, m, args, below, meth, c, Q, g, nL⟩ := x
  obtain ⟨hx, hb, hml, hown, hts, hI, hlk, hR⟩ := hC
  intro H locs la hH hS hL
  have hlt : 13 < nL := by have := hL.2.1; simp at this; omega
  obtain ⟨la', e1, hL'⟩ := am_st2 (i := 12) (vL v) hL hlt rfl (am_hp (i := 11) rfl hp)
  intro T hT X
  obtain ⟨t, a1, b1⟩ := kk H locs la' hH hS hL' T hT X
  refine ⟨t, ?_, b1⟩
  have e2 : storeLocals la 12 (.long (Int64.ofInt v)) = some la' := e1
  have e3 : (vL v :: st).map (am_c g.1) = .long (Int64.ofInt v) :: st.map (am_c g.1) := rfl
  rw [e3]
  jvm_step X.here [X.here.top, ↓top_set X.here.top, hx, hb, d, e2, Value.isRef]
  exact a1

theorem am_lstore13 {x : am_X} {cc : ByteArray} {own : String} {n mc ms : Nat} (hC : am_C x cc own n mc ms) {pc k z : Nat} {h : am_H} {st : List Value} {y0 y1 y2 y3 y4 y5 y6 y7 y8 y9 y10 y11 y12 o0 o1 : Option Value} {tl : List (Option Value)} {v : Int} (d : decode cc pc = .ok (.lstore 13, 2)) (hp : am_n2 y12 = true) (kk : am_W x (pc + 2) k z h (y0 :: y1 :: y2 :: y3 :: y4 :: y5 :: y6 :: y7 :: y8 :: y9 :: y10 :: y11 :: y12 :: some (vL v) :: none :: tl) (st)) : am_W x (pc) k z h (y0 :: y1 :: y2 :: y3 :: y4 :: y5 :: y6 :: y7 :: y8 :: y9 :: y10 :: y11 :: y12 :: o0 :: o1 :: tl) (vL v :: st) := by
  obtain ⟨p, l, e, R, s, m, args, below, meth, c, Q, g, nL⟩ := x
  obtain ⟨hx, hb, hml, hown, hts, hI, hlk, hR⟩ := hC
  intro H locs la hH hS hL
  have hlt : 14 < nL := by have := hL.2.1; simp at this; omega
  obtain ⟨la', e1, hL'⟩ := am_st2 (i := 13) (vL v) hL hlt rfl (am_hp (i := 12) rfl hp)
  intro T hT X
  obtain ⟨t, a1, b1⟩ := kk H locs la' hH hS hL' T hT X
  refine ⟨t, ?_, b1⟩
  have e2 : storeLocals la 13 (.long (Int64.ofInt v)) = some la' := e1
  have e3 : (vL v :: st).map (am_c g.1) = .long (Int64.ofInt v) :: st.map (am_c g.1) := rfl
  rw [e3]
  jvm_step X.here [X.here.top, ↓top_set X.here.top, hx, hb, d, e2, Value.isRef]
  exact a1

theorem am_lstore14 {x : am_X} {cc : ByteArray} {own : String} {n mc ms : Nat} (hC : am_C x cc own n mc ms) {pc k z : Nat} {h : am_H} {st : List Value} {y0 y1 y2 y3 y4 y5 y6 y7 y8 y9 y10 y11 y12 y13 o0 o1 : Option Value} {tl : List (Option Value)} {v : Int} (d : decode cc pc = .ok (.lstore 14, 2)) (hp : am_n2 y13 = true) (kk : am_W x (pc + 2) k z h (y0 :: y1 :: y2 :: y3 :: y4 :: y5 :: y6 :: y7 :: y8 :: y9 :: y10 :: y11 :: y12 :: y13 :: some (vL v) :: none :: tl) (st)) : am_W x (pc) k z h (y0 :: y1 :: y2 :: y3 :: y4 :: y5 :: y6 :: y7 :: y8 :: y9 :: y10 :: y11 :: y12 :: y13 :: o0 :: o1 :: tl) (vL v :: st) := by
  obtain ⟨p, l, e, R, s, m, args, below, meth, c, Q, g, nL⟩ := x
  obtain ⟨hx, hb, hml, hown, hts, hI, hlk, hR⟩ := hC
  intro H locs la hH hS hL
  have hlt : 15 < nL := by have := hL.2.1; simp at this; omega
  obtain ⟨la', e1, hL'⟩ := am_st2 (i := 14) (vL v) hL hlt rfl (am_hp (i := 13) rfl hp)
  intro T hT X
  obtain ⟨t, a1, b1⟩ := kk H locs la' hH hS hL' T hT X
  refine ⟨t, ?_, b1⟩
  have e2 : storeLocals la 14 (.long (Int64.ofInt v)) = some la' := e1
  have e3 : (vL v :: st).map (am_c g.1) = .long (Int64.ofInt v) :: st.map (am_c g.1) := rfl
  rw [e3]
  jvm_step X.here [X.here.top, ↓top_set X.here.top, hx, hb, d, e2, Value.isRef]
  exact a1

theorem am_lstore15 {x : am_X} {cc : ByteArray} {own : String} {n mc ms : Nat} (hC : am_C x cc own n mc ms) {pc k z : Nat} {h : am_H} {st : List Value} {y0 y1 y2 y3 y4 y5 y6 y7 y8 y9 y10 y11 y12 y13 y14 o0 o1 : Option Value} {tl : List (Option Value)} {v : Int} (d : decode cc pc = .ok (.lstore 15, 2)) (hp : am_n2 y14 = true) (kk : am_W x (pc + 2) k z h (y0 :: y1 :: y2 :: y3 :: y4 :: y5 :: y6 :: y7 :: y8 :: y9 :: y10 :: y11 :: y12 :: y13 :: y14 :: some (vL v) :: none :: tl) (st)) : am_W x (pc) k z h (y0 :: y1 :: y2 :: y3 :: y4 :: y5 :: y6 :: y7 :: y8 :: y9 :: y10 :: y11 :: y12 :: y13 :: y14 :: o0 :: o1 :: tl) (vL v :: st) := by
  obtain ⟨p, l, e, R, s, m, args, below, meth, c, Q, g, nL⟩ := x
  obtain ⟨hx, hb, hml, hown, hts, hI, hlk, hR⟩ := hC
  intro H locs la hH hS hL
  have hlt : 16 < nL := by have := hL.2.1; simp at this; omega
  obtain ⟨la', e1, hL'⟩ := am_st2 (i := 15) (vL v) hL hlt rfl (am_hp (i := 14) rfl hp)
  intro T hT X
  obtain ⟨t, a1, b1⟩ := kk H locs la' hH hS hL' T hT X
  refine ⟨t, ?_, b1⟩
  have e2 : storeLocals la 15 (.long (Int64.ofInt v)) = some la' := e1
  have e3 : (vL v :: st).map (am_c g.1) = .long (Int64.ofInt v) :: st.map (am_c g.1) := rfl
  rw [e3]
  jvm_step X.here [X.here.top, ↓top_set X.here.top, hx, hb, d, e2, Value.isRef]
  exact a1

theorem am_astore0 {x : am_X} {cc : ByteArray} {own : String} {n mc ms : Nat} (hC : am_C x cc own n mc ms) {pc k z : Nat} {h : am_H} {st : List Value} {o0 : Option Value} {tl : List (Option Value)} {v : Nat} (d : decode cc pc = .ok (.astore_n 0, 1)) (kk : am_W x (pc + 1) k z h (some (Value.ref v) :: tl) (st)) : am_W x (pc) k z h (o0 :: tl) (Value.ref v :: st) := by
  obtain ⟨p, l, e, R, s, m, args, below, meth, c, Q, g, nL⟩ := x
  obtain ⟨hx, hb, hml, hown, hts, hI, hlk, hR⟩ := hC
  intro H locs la hH hS hL
  have hlt : 0 < nL := by have := hL.2.1; simp at this; omega
  obtain ⟨la', e1, hL'⟩ := am_st1 (i := 0) (Value.ref v) hL hlt rfl (fun j u hj hu => by omega)
  intro T hT X
  obtain ⟨t, a1, b1⟩ := kk H locs la' hH hS hL' T hT X
  refine ⟨t, ?_, b1⟩
  have e2 : storeLocals la 0 (.ref (g.1 + v)) = some la' := e1
  have e3 : (Value.ref v :: st).map (am_c g.1) = .ref (g.1 + v) :: st.map (am_c g.1) := rfl
  rw [e3]
  jvm_step X.here [X.here.top, ↓top_set X.here.top, hx, hb, d, e2, Value.isRef]
  exact a1

theorem am_astore1 {x : am_X} {cc : ByteArray} {own : String} {n mc ms : Nat} (hC : am_C x cc own n mc ms) {pc k z : Nat} {h : am_H} {st : List Value} {y0 o0 : Option Value} {tl : List (Option Value)} {v : Nat} (d : decode cc pc = .ok (.astore_n 1, 1)) (hp : am_n2 y0 = true) (kk : am_W x (pc + 1) k z h (y0 :: some (Value.ref v) :: tl) (st)) : am_W x (pc) k z h (y0 :: o0 :: tl) (Value.ref v :: st) := by
  obtain ⟨p, l, e, R, s, m, args, below, meth, c, Q, g, nL⟩ := x
  obtain ⟨hx, hb, hml, hown, hts, hI, hlk, hR⟩ := hC
  intro H locs la hH hS hL
  have hlt : 1 < nL := by have := hL.2.1; simp at this; omega
  obtain ⟨la', e1, hL'⟩ := am_st1 (i := 1) (Value.ref v) hL hlt rfl (am_hp (i := 0) rfl hp)
  intro T hT X
  obtain ⟨t, a1, b1⟩ := kk H locs la' hH hS hL' T hT X
  refine ⟨t, ?_, b1⟩
  have e2 : storeLocals la 1 (.ref (g.1 + v)) = some la' := e1
  have e3 : (Value.ref v :: st).map (am_c g.1) = .ref (g.1 + v) :: st.map (am_c g.1) := rfl
  rw [e3]
  jvm_step X.here [X.here.top, ↓top_set X.here.top, hx, hb, d, e2, Value.isRef]
  exact a1

theorem am_astore2 {x : am_X} {cc : ByteArray} {own : String} {n mc ms : Nat} (hC : am_C x cc own n mc ms) {pc k z : Nat} {h : am_H} {st : List Value} {y0 y1 o0 : Option Value} {tl : List (Option Value)} {v : Nat} (d : decode cc pc = .ok (.astore_n 2, 1)) (hp : am_n2 y1 = true) (kk : am_W x (pc + 1) k z h (y0 :: y1 :: some (Value.ref v) :: tl) (st)) : am_W x (pc) k z h (y0 :: y1 :: o0 :: tl) (Value.ref v :: st) := by
  obtain ⟨p, l, e, R, s, m, args, below, meth, c, Q, g, nL⟩ := x
  obtain ⟨hx, hb, hml, hown, hts, hI, hlk, hR⟩ := hC
  intro H locs la hH hS hL
  have hlt : 2 < nL := by have := hL.2.1; simp at this; omega
  obtain ⟨la', e1, hL'⟩ := am_st1 (i := 2) (Value.ref v) hL hlt rfl (am_hp (i := 1) rfl hp)
  intro T hT X
  obtain ⟨t, a1, b1⟩ := kk H locs la' hH hS hL' T hT X
  refine ⟨t, ?_, b1⟩
  have e2 : storeLocals la 2 (.ref (g.1 + v)) = some la' := e1
  have e3 : (Value.ref v :: st).map (am_c g.1) = .ref (g.1 + v) :: st.map (am_c g.1) := rfl
  rw [e3]
  jvm_step X.here [X.here.top, ↓top_set X.here.top, hx, hb, d, e2, Value.isRef]
  exact a1

theorem am_astore3 {x : am_X} {cc : ByteArray} {own : String} {n mc ms : Nat} (hC : am_C x cc own n mc ms) {pc k z : Nat} {h : am_H} {st : List Value} {y0 y1 y2 o0 : Option Value} {tl : List (Option Value)} {v : Nat} (d : decode cc pc = .ok (.astore_n 3, 1)) (hp : am_n2 y2 = true) (kk : am_W x (pc + 1) k z h (y0 :: y1 :: y2 :: some (Value.ref v) :: tl) (st)) : am_W x (pc) k z h (y0 :: y1 :: y2 :: o0 :: tl) (Value.ref v :: st) := by
  obtain ⟨p, l, e, R, s, m, args, below, meth, c, Q, g, nL⟩ := x
  obtain ⟨hx, hb, hml, hown, hts, hI, hlk, hR⟩ := hC
  intro H locs la hH hS hL
  have hlt : 3 < nL := by have := hL.2.1; simp at this; omega
  obtain ⟨la', e1, hL'⟩ := am_st1 (i := 3) (Value.ref v) hL hlt rfl (am_hp (i := 2) rfl hp)
  intro T hT X
  obtain ⟨t, a1, b1⟩ := kk H locs la' hH hS hL' T hT X
  refine ⟨t, ?_, b1⟩
  have e2 : storeLocals la 3 (.ref (g.1 + v)) = some la' := e1
  have e3 : (Value.ref v :: st).map (am_c g.1) = .ref (g.1 + v) :: st.map (am_c g.1) := rfl
  rw [e3]
  jvm_step X.here [X.here.top, ↓top_set X.here.top, hx, hb, d, e2, Value.isRef]
  exact a1

theorem am_astore4 {x : am_X} {cc : ByteArray} {own : String} {n mc ms : Nat} (hC : am_C x cc own n mc ms) {pc k z : Nat} {h : am_H} {st : List Value} {y0 y1 y2 y3 o0 : Option Value} {tl : List (Option Value)} {v : Nat} (d : decode cc pc = .ok (.astore 4, 2)) (hp : am_n2 y3 = true) (kk : am_W x (pc + 2) k z h (y0 :: y1 :: y2 :: y3 :: some (Value.ref v) :: tl) (st)) : am_W x (pc) k z h (y0 :: y1 :: y2 :: y3 :: o0 :: tl) (Value.ref v :: st) := by
  obtain ⟨p, l, e, R, s, m, args, below, meth, c, Q, g, nL⟩ := x
  obtain ⟨hx, hb, hml, hown, hts, hI, hlk, hR⟩ := hC
  intro H locs la hH hS hL
  have hlt : 4 < nL := by have := hL.2.1; simp at this; omega
  obtain ⟨la', e1, hL'⟩ := am_st1 (i := 4) (Value.ref v) hL hlt rfl (am_hp (i := 3) rfl hp)
  intro T hT X
  obtain ⟨t, a1, b1⟩ := kk H locs la' hH hS hL' T hT X
  refine ⟨t, ?_, b1⟩
  have e2 : storeLocals la 4 (.ref (g.1 + v)) = some la' := e1
  have e3 : (Value.ref v :: st).map (am_c g.1) = .ref (g.1 + v) :: st.map (am_c g.1) := rfl
  rw [e3]
  jvm_step X.here [X.here.top, ↓top_set X.here.top, hx, hb, d, e2, Value.isRef]
  exact a1

theorem am_astore5 {x : am_X} {cc : ByteArray} {own : String} {n mc ms : Nat} (hC : am_C x cc own n mc ms) {pc k z : Nat} {h : am_H} {st : List Value} {y0 y1 y2 y3 y4 o0 : Option Value} {tl : List (Option Value)} {v : Nat} (d : decode cc pc = .ok (.astore 5, 2)) (hp : am_n2 y4 = true) (kk : am_W x (pc + 2) k z h (y0 :: y1 :: y2 :: y3 :: y4 :: some (Value.ref v) :: tl) (st)) : am_W x (pc) k z h (y0 :: y1 :: y2 :: y3 :: y4 :: o0 :: tl) (Value.ref v :: st) := by
  obtain ⟨p, l, e, R, s, m, args, below, meth, c, Q, g, nL⟩ := x
  obtain ⟨hx, hb, hml, hown, hts, hI, hlk, hR⟩ := hC
  intro H locs la hH hS hL
  have hlt : 5 < nL := by have := hL.2.1; simp at this; omega
  obtain ⟨la', e1, hL'⟩ := am_st1 (i := 5) (Value.ref v) hL hlt rfl (am_hp (i := 4) rfl hp)
  intro T hT X
  obtain ⟨t, a1, b1⟩ := kk H locs la' hH hS hL' T hT X
  refine ⟨t, ?_, b1⟩
  have e2 : storeLocals la 5 (.ref (g.1 + v)) = some la' := e1
  have e3 : (Value.ref v :: st).map (am_c g.1) = .ref (g.1 + v) :: st.map (am_c g.1) := rfl
  rw [e3]
  jvm_step X.here [X.here.top, ↓top_set X.here.top, hx, hb, d, e2, Value.isRef]
  exact a1

theorem am_astore6 {x : am_X} {cc : ByteArray} {own : String} {n mc ms : Nat} (hC : am_C x cc own n mc ms) {pc k z : Nat} {h : am_H} {st : List Value} {y0 y1 y2 y3 y4 y5 o0 : Option Value} {tl : List (Option Value)} {v : Nat} (d : decode cc pc = .ok (.astore 6, 2)) (hp : am_n2 y5 = true) (kk : am_W x (pc + 2) k z h (y0 :: y1 :: y2 :: y3 :: y4 :: y5 :: some (Value.ref v) :: tl) (st)) : am_W x (pc) k z h (y0 :: y1 :: y2 :: y3 :: y4 :: y5 :: o0 :: tl) (Value.ref v :: st) := by
  obtain ⟨p, l, e, R, s, m, args, below, meth, c, Q, g, nL⟩ := x
  obtain ⟨hx, hb, hml, hown, hts, hI, hlk, hR⟩ := hC
  intro H locs la hH hS hL
  have hlt : 6 < nL := by have := hL.2.1; simp at this; omega
  obtain ⟨la', e1, hL'⟩ := am_st1 (i := 6) (Value.ref v) hL hlt rfl (am_hp (i := 5) rfl hp)
  intro T hT X
  obtain ⟨t, a1, b1⟩ := kk H locs la' hH hS hL' T hT X
  refine ⟨t, ?_, b1⟩
  have e2 : storeLocals la 6 (.ref (g.1 + v)) = some la' := e1
  have e3 : (Value.ref v :: st).map (am_c g.1) = .ref (g.1 + v) :: st.map (am_c g.1) := rfl
  rw [e3]
  jvm_step X.here [X.here.top, ↓top_set X.here.top, hx, hb, d, e2, Value.isRef]
  exact a1

theorem am_astore7 {x : am_X} {cc : ByteArray} {own : String} {n mc ms : Nat} (hC : am_C x cc own n mc ms) {pc k z : Nat} {h : am_H} {st : List Value} {y0 y1 y2 y3 y4 y5 y6 o0 : Option Value} {tl : List (Option Value)} {v : Nat} (d : decode cc pc = .ok (.astore 7, 2)) (hp : am_n2 y6 = true) (kk : am_W x (pc + 2) k z h (y0 :: y1 :: y2 :: y3 :: y4 :: y5 :: y6 :: some (Value.ref v) :: tl) (st)) : am_W x (pc) k z h (y0 :: y1 :: y2 :: y3 :: y4 :: y5 :: y6 :: o0 :: tl) (Value.ref v :: st) := by
  obtain ⟨p, l, e, R, s, m, args, below, meth, c, Q, g, nL⟩ := x
  obtain ⟨hx, hb, hml, hown, hts, hI, hlk, hR⟩ := hC
  intro H locs la hH hS hL
  have hlt : 7 < nL := by have := hL.2.1; simp at this; omega
  obtain ⟨la', e1, hL'⟩ := am_st1 (i := 7) (Value.ref v) hL hlt rfl (am_hp (i := 6) rfl hp)
  intro T hT X
  obtain ⟨t, a1, b1⟩ := kk H locs la' hH hS hL' T hT X
  refine ⟨t, ?_, b1⟩
  have e2 : storeLocals la 7 (.ref (g.1 + v)) = some la' := e1
  have e3 : (Value.ref v :: st).map (am_c g.1) = .ref (g.1 + v) :: st.map (am_c g.1) := rfl
  rw [e3]
  jvm_step X.here [X.here.top, ↓top_set X.here.top, hx, hb, d, e2, Value.isRef]
  exact a1

theorem am_astore8 {x : am_X} {cc : ByteArray} {own : String} {n mc ms : Nat} (hC : am_C x cc own n mc ms) {pc k z : Nat} {h : am_H} {st : List Value} {y0 y1 y2 y3 y4 y5 y6 y7 o0 : Option Value} {tl : List (Option Value)} {v : Nat} (d : decode cc pc = .ok (.astore 8, 2)) (hp : am_n2 y7 = true) (kk : am_W x (pc + 2) k z h (y0 :: y1 :: y2 :: y3 :: y4 :: y5 :: y6 :: y7 :: some (Value.ref v) :: tl) (st)) : am_W x (pc) k z h (y0 :: y1 :: y2 :: y3 :: y4 :: y5 :: y6 :: y7 :: o0 :: tl) (Value.ref v :: st) := by
  obtain ⟨p, l, e, R, s, m, args, below, meth, c, Q, g, nL⟩ := x
  obtain ⟨hx, hb, hml, hown, hts, hI, hlk, hR⟩ := hC
  intro H locs la hH hS hL
  have hlt : 8 < nL := by have := hL.2.1; simp at this; omega
  obtain ⟨la', e1, hL'⟩ := am_st1 (i := 8) (Value.ref v) hL hlt rfl (am_hp (i := 7) rfl hp)
  intro T hT X
  obtain ⟨t, a1, b1⟩ := kk H locs la' hH hS hL' T hT X
  refine ⟨t, ?_, b1⟩
  have e2 : storeLocals la 8 (.ref (g.1 + v)) = some la' := e1
  have e3 : (Value.ref v :: st).map (am_c g.1) = .ref (g.1 + v) :: st.map (am_c g.1) := rfl
  rw [e3]
  jvm_step X.here [X.here.top, ↓top_set X.here.top, hx, hb, d, e2, Value.isRef]
  exact a1

theorem am_astore9 {x : am_X} {cc : ByteArray} {own : String} {n mc ms : Nat} (hC : am_C x cc own n mc ms) {pc k z : Nat} {h : am_H} {st : List Value} {y0 y1 y2 y3 y4 y5 y6 y7 y8 o0 : Option Value} {tl : List (Option Value)} {v : Nat} (d : decode cc pc = .ok (.astore 9, 2)) (hp : am_n2 y8 = true) (kk : am_W x (pc + 2) k z h (y0 :: y1 :: y2 :: y3 :: y4 :: y5 :: y6 :: y7 :: y8 :: some (Value.ref v) :: tl) (st)) : am_W x (pc) k z h (y0 :: y1 :: y2 :: y3 :: y4 :: y5 :: y6 :: y7 :: y8 :: o0 :: tl) (Value.ref v :: st) := by
  obtain ⟨p, l, e, R, s, m, args, below, meth, c, Q, g, nL⟩ := x
  obtain ⟨hx, hb, hml, hown, hts, hI, hlk, hR⟩ := hC
  intro H locs la hH hS hL
  have hlt : 9 < nL := by have := hL.2.1; simp at this; omega
  obtain ⟨la', e1, hL'⟩ := am_st1 (i := 9) (Value.ref v) hL hlt rfl (am_hp (i := 8) rfl hp)
  intro T hT X
  obtain ⟨t, a1, b1⟩ := kk H locs la' hH hS hL' T hT X
  refine ⟨t, ?_, b1⟩
  have e2 : storeLocals la 9 (.ref (g.1 + v)) = some la' := e1
  have e3 : (Value.ref v :: st).map (am_c g.1) = .ref (g.1 + v) :: st.map (am_c g.1) := rfl
  rw [e3]
  jvm_step X.here [X.here.top, ↓top_set X.here.top, hx, hb, d, e2, Value.isRef]
  exact a1

theorem am_astore10 {x : am_X} {cc : ByteArray} {own : String} {n mc ms : Nat} (hC : am_C x cc own n mc ms) {pc k z : Nat} {h : am_H} {st : List Value} {y0 y1 y2 y3 y4 y5 y6 y7 y8 y9 o0 : Option Value} {tl : List (Option Value)} {v : Nat} (d : decode cc pc = .ok (.astore 10, 2)) (hp : am_n2 y9 = true) (kk : am_W x (pc + 2) k z h (y0 :: y1 :: y2 :: y3 :: y4 :: y5 :: y6 :: y7 :: y8 :: y9 :: some (Value.ref v) :: tl) (st)) : am_W x (pc) k z h (y0 :: y1 :: y2 :: y3 :: y4 :: y5 :: y6 :: y7 :: y8 :: y9 :: o0 :: tl) (Value.ref v :: st) := by
  obtain ⟨p, l, e, R, s, m, args, below, meth, c, Q, g, nL⟩ := x
  obtain ⟨hx, hb, hml, hown, hts, hI, hlk, hR⟩ := hC
  intro H locs la hH hS hL
  have hlt : 10 < nL := by have := hL.2.1; simp at this; omega
  obtain ⟨la', e1, hL'⟩ := am_st1 (i := 10) (Value.ref v) hL hlt rfl (am_hp (i := 9) rfl hp)
  intro T hT X
  obtain ⟨t, a1, b1⟩ := kk H locs la' hH hS hL' T hT X
  refine ⟨t, ?_, b1⟩
  have e2 : storeLocals la 10 (.ref (g.1 + v)) = some la' := e1
  have e3 : (Value.ref v :: st).map (am_c g.1) = .ref (g.1 + v) :: st.map (am_c g.1) := rfl
  rw [e3]
  jvm_step X.here [X.here.top, ↓top_set X.here.top, hx, hb, d, e2, Value.isRef]
  exact a1

theorem am_astore11 {x : am_X} {cc : ByteArray} {own : String} {n mc ms : Nat} (hC : am_C x cc own n mc ms) {pc k z : Nat} {h : am_H} {st : List Value} {y0 y1 y2 y3 y4 y5 y6 y7 y8 y9 y10 o0 : Option Value} {tl : List (Option Value)} {v : Nat} (d : decode cc pc = .ok (.astore 11, 2)) (hp : am_n2 y10 = true) (kk : am_W x (pc + 2) k z h (y0 :: y1 :: y2 :: y3 :: y4 :: y5 :: y6 :: y7 :: y8 :: y9 :: y10 :: some (Value.ref v) :: tl) (st)) : am_W x (pc) k z h (y0 :: y1 :: y2 :: y3 :: y4 :: y5 :: y6 :: y7 :: y8 :: y9 :: y10 :: o0 :: tl) (Value.ref v :: st) := by
  obtain ⟨p, l, e, R, s, m, args, below, meth, c, Q, g, nL⟩ := x
  obtain ⟨hx, hb, hml, hown, hts, hI, hlk, hR⟩ := hC
  intro H locs la hH hS hL
  have hlt : 11 < nL := by have := hL.2.1; simp at this; omega
  obtain ⟨la', e1, hL'⟩ := am_st1 (i := 11) (Value.ref v) hL hlt rfl (am_hp (i := 10) rfl hp)
  intro T hT X
  obtain ⟨t, a1, b1⟩ := kk H locs la' hH hS hL' T hT X
  refine ⟨t, ?_, b1⟩
  have e2 : storeLocals la 11 (.ref (g.1 + v)) = some la' := e1
  have e3 : (Value.ref v :: st).map (am_c g.1) = .ref (g.1 + v) :: st.map (am_c g.1) := rfl
  rw [e3]
  jvm_step X.here [X.here.top, ↓top_set X.here.top, hx, hb, d, e2, Value.isRef]
  exact a1

theorem am_astore12 {x : am_X} {cc : ByteArray} {own : String} {n mc ms : Nat} (hC : am_C x cc own n mc ms) {pc k z : Nat} {h : am_H} {st : List Value} {y0 y1 y2 y3 y4 y5 y6 y7 y8 y9 y10 y11 o0 : Option Value} {tl : List (Option Value)} {v : Nat} (d : decode cc pc = .ok (.astore 12, 2)) (hp : am_n2 y11 = true) (kk : am_W x (pc + 2) k z h (y0 :: y1 :: y2 :: y3 :: y4 :: y5 :: y6 :: y7 :: y8 :: y9 :: y10 :: y11 :: some (Value.ref v) :: tl) (st)) : am_W x (pc) k z h (y0 :: y1 :: y2 :: y3 :: y4 :: y5 :: y6 :: y7 :: y8 :: y9 :: y10 :: y11 :: o0 :: tl) (Value.ref v :: st) := by
  obtain ⟨p, l, e, R, s, m, args, below, meth, c, Q, g, nL⟩ := x
  obtain ⟨hx, hb, hml, hown, hts, hI, hlk, hR⟩ := hC
  intro H locs la hH hS hL
  have hlt : 12 < nL := by have := hL.2.1; simp at this; omega
  obtain ⟨la', e1, hL'⟩ := am_st1 (i := 12) (Value.ref v) hL hlt rfl (am_hp (i := 11) rfl hp)
  intro T hT X
  obtain ⟨t, a1, b1⟩ := kk H locs la' hH hS hL' T hT X
  refine ⟨t, ?_, b1⟩
  have e2 : storeLocals la 12 (.ref (g.1 + v)) = some la' := e1
  have e3 : (Value.ref v :: st).map (am_c g.1) = .ref (g.1 + v) :: st.map (am_c g.1) := rfl
  rw [e3]
  jvm_step X.here [X.here.top, ↓top_set X.here.top, hx, hb, d, e2, Value.isRef]
  exact a1

theorem am_astore13 {x : am_X} {cc : ByteArray} {own : String} {n mc ms : Nat} (hC : am_C x cc own n mc ms) {pc k z : Nat} {h : am_H} {st : List Value} {y0 y1 y2 y3 y4 y5 y6 y7 y8 y9 y10 y11 y12 o0 : Option Value} {tl : List (Option Value)} {v : Nat} (d : decode cc pc = .ok (.astore 13, 2)) (hp : am_n2 y12 = true) (kk : am_W x (pc + 2) k z h (y0 :: y1 :: y2 :: y3 :: y4 :: y5 :: y6 :: y7 :: y8 :: y9 :: y10 :: y11 :: y12 :: some (Value.ref v) :: tl) (st)) : am_W x (pc) k z h (y0 :: y1 :: y2 :: y3 :: y4 :: y5 :: y6 :: y7 :: y8 :: y9 :: y10 :: y11 :: y12 :: o0 :: tl) (Value.ref v :: st) := by
  obtain ⟨p, l, e, R, s, m, args, below, meth, c, Q, g, nL⟩ := x
  obtain ⟨hx, hb, hml, hown, hts, hI, hlk, hR⟩ := hC
  intro H locs la hH hS hL
  have hlt : 13 < nL := by have := hL.2.1; simp at this; omega
  obtain ⟨la', e1, hL'⟩ := am_st1 (i := 13) (Value.ref v) hL hlt rfl (am_hp (i := 12) rfl hp)
  intro T hT X
  obtain ⟨t, a1, b1⟩ := kk H locs la' hH hS hL' T hT X
  refine ⟨t, ?_, b1⟩
  have e2 : storeLocals la 13 (.ref (g.1 + v)) = some la' := e1
  have e3 : (Value.ref v :: st).map (am_c g.1) = .ref (g.1 + v) :: st.map (am_c g.1) := rfl
  rw [e3]
  jvm_step X.here [X.here.top, ↓top_set X.here.top, hx, hb, d, e2, Value.isRef]
  exact a1

theorem am_astore14 {x : am_X} {cc : ByteArray} {own : String} {n mc ms : Nat} (hC : am_C x cc own n mc ms) {pc k z : Nat} {h : am_H} {st : List Value} {y0 y1 y2 y3 y4 y5 y6 y7 y8 y9 y10 y11 y12 y13 o0 : Option Value} {tl : List (Option Value)} {v : Nat} (d : decode cc pc = .ok (.astore 14, 2)) (hp : am_n2 y13 = true) (kk : am_W x (pc + 2) k z h (y0 :: y1 :: y2 :: y3 :: y4 :: y5 :: y6 :: y7 :: y8 :: y9 :: y10 :: y11 :: y12 :: y13 :: some (Value.ref v) :: tl) (st)) : am_W x (pc) k z h (y0 :: y1 :: y2 :: y3 :: y4 :: y5 :: y6 :: y7 :: y8 :: y9 :: y10 :: y11 :: y12 :: y13 :: o0 :: tl) (Value.ref v :: st) := by
  obtain ⟨p, l, e, R, s, m, args, below, meth, c, Q, g, nL⟩ := x
  obtain ⟨hx, hb, hml, hown, hts, hI, hlk, hR⟩ := hC
  intro H locs la hH hS hL
  have hlt : 14 < nL := by have := hL.2.1; simp at this; omega
  obtain ⟨la', e1, hL'⟩ := am_st1 (i := 14) (Value.ref v) hL hlt rfl (am_hp (i := 13) rfl hp)
  intro T hT X
  obtain ⟨t, a1, b1⟩ := kk H locs la' hH hS hL' T hT X
  refine ⟨t, ?_, b1⟩
  have e2 : storeLocals la 14 (.ref (g.1 + v)) = some la' := e1
  have e3 : (Value.ref v :: st).map (am_c g.1) = .ref (g.1 + v) :: st.map (am_c g.1) := rfl
  rw [e3]
  jvm_step X.here [X.here.top, ↓top_set X.here.top, hx, hb, d, e2, Value.isRef]
  exact a1

theorem am_astore15 {x : am_X} {cc : ByteArray} {own : String} {n mc ms : Nat} (hC : am_C x cc own n mc ms) {pc k z : Nat} {h : am_H} {st : List Value} {y0 y1 y2 y3 y4 y5 y6 y7 y8 y9 y10 y11 y12 y13 y14 o0 : Option Value} {tl : List (Option Value)} {v : Nat} (d : decode cc pc = .ok (.astore 15, 2)) (hp : am_n2 y14 = true) (kk : am_W x (pc + 2) k z h (y0 :: y1 :: y2 :: y3 :: y4 :: y5 :: y6 :: y7 :: y8 :: y9 :: y10 :: y11 :: y12 :: y13 :: y14 :: some (Value.ref v) :: tl) (st)) : am_W x (pc) k z h (y0 :: y1 :: y2 :: y3 :: y4 :: y5 :: y6 :: y7 :: y8 :: y9 :: y10 :: y11 :: y12 :: y13 :: y14 :: o0 :: tl) (Value.ref v :: st) := by
  obtain ⟨p, l, e, R, s, m, args, below, meth, c, Q, g, nL⟩ := x
  obtain ⟨hx, hb, hml, hown, hts, hI, hlk, hR⟩ := hC
  intro H locs la hH hS hL
  have hlt : 15 < nL := by have := hL.2.1; simp at this; omega
  obtain ⟨la', e1, hL'⟩ := am_st1 (i := 15) (Value.ref v) hL hlt rfl (am_hp (i := 14) rfl hp)
  intro T hT X
  obtain ⟨t, a1, b1⟩ := kk H locs la' hH hS hL' T hT X
  refine ⟨t, ?_, b1⟩
  have e2 : storeLocals la 15 (.ref (g.1 + v)) = some la' := e1
  have e3 : (Value.ref v :: st).map (am_c g.1) = .ref (g.1 + v) :: st.map (am_c g.1) := rfl
  rw [e3]
  jvm_step X.here [X.here.top, ↓top_set X.here.top, hx, hb, d, e2, Value.isRef]
  exact a1

theorem am_iinc0 {x : am_X} {cc : ByteArray} {own : String} {n mc ms : Nat} (hC : am_C x cc own n mc ms) {pc k z : Nat} {h : am_H} {st : List Value} {tl : List (Option Value)} {v c0 : Int} (d : decode cc pc = .ok (.iinc 0 c0, 3)) (kk : am_W x (pc + 3) k z h (some (vI (v + c0)) :: tl) (st)) : am_W x (pc) k z h (some (vI v) :: tl) (st) := by
  obtain ⟨p, l, e, R, s, m, args, below, meth, c, Q, g, nL⟩ := x
  obtain ⟨hx, hb, hml, hown, hts, hI, hlk, hR⟩ := hC
  intro H locs la hH hS hL
  have hlt : 0 < nL := by have := hL.2.1; simp at this; omega
  obtain ⟨la', e1, hL'⟩ := am_st1 (i := 0) (vI (v + c0)) hL hlt rfl (fun j u hj hu => by omega)
  have hg : la[0]? = some (.val (.int (Int32.ofInt v))) := hL.2.2 0 _ rfl
  intro T hT X
  obtain ⟨t, a1, b1⟩ := kk H locs la' hH hS hL' T hT X
  refine ⟨t, ?_, b1⟩
  have e2 : storeLocals la 0 (.int (Int32.ofInt v + Int32.ofInt c0)) = some la' := by rw [← Int32.ofInt_add]; exact e1
  jvm_step X.here [X.here.top, ↓top_set X.here.top, hx, hb, d, hg, e2]
  exact a1

theorem am_iinc1 {x : am_X} {cc : ByteArray} {own : String} {n mc ms : Nat} (hC : am_C x cc own n mc ms) {pc k z : Nat} {h : am_H} {st : List Value} {y0 : Option Value} {tl : List (Option Value)} {v c0 : Int} (d : decode cc pc = .ok (.iinc 1 c0, 3)) (hp : am_n2 y0 = true) (kk : am_W x (pc + 3) k z h (y0 :: some (vI (v + c0)) :: tl) (st)) : am_W x (pc) k z h (y0 :: some (vI v) :: tl) (st) := by
  obtain ⟨p, l, e, R, s, m, args, below, meth, c, Q, g, nL⟩ := x
  obtain ⟨hx, hb, hml, hown, hts, hI, hlk, hR⟩ := hC
  intro H locs la hH hS hL
  have hlt : 1 < nL := by have := hL.2.1; simp at this; omega
  obtain ⟨la', e1, hL'⟩ := am_st1 (i := 1) (vI (v + c0)) hL hlt rfl (am_hp (i := 0) rfl hp)
  have hg : la[1]? = some (.val (.int (Int32.ofInt v))) := hL.2.2 1 _ rfl
  intro T hT X
  obtain ⟨t, a1, b1⟩ := kk H locs la' hH hS hL' T hT X
  refine ⟨t, ?_, b1⟩
  have e2 : storeLocals la 1 (.int (Int32.ofInt v + Int32.ofInt c0)) = some la' := by rw [← Int32.ofInt_add]; exact e1
  jvm_step X.here [X.here.top, ↓top_set X.here.top, hx, hb, d, hg, e2]
  exact a1

theorem am_iinc2 {x : am_X} {cc : ByteArray} {own : String} {n mc ms : Nat} (hC : am_C x cc own n mc ms) {pc k z : Nat} {h : am_H} {st : List Value} {y0 y1 : Option Value} {tl : List (Option Value)} {v c0 : Int} (d : decode cc pc = .ok (.iinc 2 c0, 3)) (hp : am_n2 y1 = true) (kk : am_W x (pc + 3) k z h (y0 :: y1 :: some (vI (v + c0)) :: tl) (st)) : am_W x (pc) k z h (y0 :: y1 :: some (vI v) :: tl) (st) := by
  obtain ⟨p, l, e, R, s, m, args, below, meth, c, Q, g, nL⟩ := x
  obtain ⟨hx, hb, hml, hown, hts, hI, hlk, hR⟩ := hC
  intro H locs la hH hS hL
  have hlt : 2 < nL := by have := hL.2.1; simp at this; omega
  obtain ⟨la', e1, hL'⟩ := am_st1 (i := 2) (vI (v + c0)) hL hlt rfl (am_hp (i := 1) rfl hp)
  have hg : la[2]? = some (.val (.int (Int32.ofInt v))) := hL.2.2 2 _ rfl
  intro T hT X
  obtain ⟨t, a1, b1⟩ := kk H locs la' hH hS hL' T hT X
  refine ⟨t, ?_, b1⟩
  have e2 : storeLocals la 2 (.int (Int32.ofInt v + Int32.ofInt c0)) = some la' := by rw [← Int32.ofInt_add]; exact e1
  jvm_step X.here [X.here.top, ↓top_set X.here.top, hx, hb, d, hg, e2]
  exact a1

theorem am_iinc3 {x : am_X} {cc : ByteArray} {own : String} {n mc ms : Nat} (hC : am_C x cc own n mc ms) {pc k z : Nat} {h : am_H} {st : List Value} {y0 y1 y2 : Option Value} {tl : List (Option Value)} {v c0 : Int} (d : decode cc pc = .ok (.iinc 3 c0, 3)) (hp : am_n2 y2 = true) (kk : am_W x (pc + 3) k z h (y0 :: y1 :: y2 :: some (vI (v + c0)) :: tl) (st)) : am_W x (pc) k z h (y0 :: y1 :: y2 :: some (vI v) :: tl) (st) := by
  obtain ⟨p, l, e, R, s, m, args, below, meth, c, Q, g, nL⟩ := x
  obtain ⟨hx, hb, hml, hown, hts, hI, hlk, hR⟩ := hC
  intro H locs la hH hS hL
  have hlt : 3 < nL := by have := hL.2.1; simp at this; omega
  obtain ⟨la', e1, hL'⟩ := am_st1 (i := 3) (vI (v + c0)) hL hlt rfl (am_hp (i := 2) rfl hp)
  have hg : la[3]? = some (.val (.int (Int32.ofInt v))) := hL.2.2 3 _ rfl
  intro T hT X
  obtain ⟨t, a1, b1⟩ := kk H locs la' hH hS hL' T hT X
  refine ⟨t, ?_, b1⟩
  have e2 : storeLocals la 3 (.int (Int32.ofInt v + Int32.ofInt c0)) = some la' := by rw [← Int32.ofInt_add]; exact e1
  jvm_step X.here [X.here.top, ↓top_set X.here.top, hx, hb, d, hg, e2]
  exact a1

theorem am_iinc4 {x : am_X} {cc : ByteArray} {own : String} {n mc ms : Nat} (hC : am_C x cc own n mc ms) {pc k z : Nat} {h : am_H} {st : List Value} {y0 y1 y2 y3 : Option Value} {tl : List (Option Value)} {v c0 : Int} (d : decode cc pc = .ok (.iinc 4 c0, 3)) (hp : am_n2 y3 = true) (kk : am_W x (pc + 3) k z h (y0 :: y1 :: y2 :: y3 :: some (vI (v + c0)) :: tl) (st)) : am_W x (pc) k z h (y0 :: y1 :: y2 :: y3 :: some (vI v) :: tl) (st) := by
  obtain ⟨p, l, e, R, s, m, args, below, meth, c, Q, g, nL⟩ := x
  obtain ⟨hx, hb, hml, hown, hts, hI, hlk, hR⟩ := hC
  intro H locs la hH hS hL
  have hlt : 4 < nL := by have := hL.2.1; simp at this; omega
  obtain ⟨la', e1, hL'⟩ := am_st1 (i := 4) (vI (v + c0)) hL hlt rfl (am_hp (i := 3) rfl hp)
  have hg : la[4]? = some (.val (.int (Int32.ofInt v))) := hL.2.2 4 _ rfl
  intro T hT X
  obtain ⟨t, a1, b1⟩ := kk H locs la' hH hS hL' T hT X
  refine ⟨t, ?_, b1⟩
  have e2 : storeLocals la 4 (.int (Int32.ofInt v + Int32.ofInt c0)) = some la' := by rw [← Int32.ofInt_add]; exact e1
  jvm_step X.here [X.here.top, ↓top_set X.here.top, hx, hb, d, hg, e2]
  exact a1

theorem am_iinc5 {x : am_X} {cc : ByteArray} {own : String} {n mc ms : Nat} (hC : am_C x cc own n mc ms) {pc k z : Nat} {h : am_H} {st : List Value} {y0 y1 y2 y3 y4 : Option Value} {tl : List (Option Value)} {v c0 : Int} (d : decode cc pc = .ok (.iinc 5 c0, 3)) (hp : am_n2 y4 = true) (kk : am_W x (pc + 3) k z h (y0 :: y1 :: y2 :: y3 :: y4 :: some (vI (v + c0)) :: tl) (st)) : am_W x (pc) k z h (y0 :: y1 :: y2 :: y3 :: y4 :: some (vI v) :: tl) (st) := by
  obtain ⟨p, l, e, R, s, m, args, below, meth, c, Q, g, nL⟩ := x
  obtain ⟨hx, hb, hml, hown, hts, hI, hlk, hR⟩ := hC
  intro H locs la hH hS hL
  have hlt : 5 < nL := by have := hL.2.1; simp at this; omega
  obtain ⟨la', e1, hL'⟩ := am_st1 (i := 5) (vI (v + c0)) hL hlt rfl (am_hp (i := 4) rfl hp)
  have hg : la[5]? = some (.val (.int (Int32.ofInt v))) := hL.2.2 5 _ rfl
  intro T hT X
  obtain ⟨t, a1, b1⟩ := kk H locs la' hH hS hL' T hT X
  refine ⟨t, ?_, b1⟩
  have e2 : storeLocals la 5 (.int (Int32.ofInt v + Int32.ofInt c0)) = some la' := by rw [← Int32.ofInt_add]; exact e1
  jvm_step X.here [X.here.top, ↓top_set X.here.top, hx, hb, d, hg, e2]
  exact a1

theorem am_iinc6 {x : am_X} {cc : ByteArray} {own : String} {n mc ms : Nat} (hC : am_C x cc own n mc ms) {pc k z : Nat} {h : am_H} {st : List Value} {y0 y1 y2 y3 y4 y5 : Option Value} {tl : List (Option Value)} {v c0 : Int} (d : decode cc pc = .ok (.iinc 6 c0, 3)) (hp : am_n2 y5 = true) (kk : am_W x (pc + 3) k z h (y0 :: y1 :: y2 :: y3 :: y4 :: y5 :: some (vI (v + c0)) :: tl) (st)) : am_W x (pc) k z h (y0 :: y1 :: y2 :: y3 :: y4 :: y5 :: some (vI v) :: tl) (st) := by
  obtain ⟨p, l, e, R, s, m, args, below, meth, c, Q, g, nL⟩ := x
  obtain ⟨hx, hb, hml, hown, hts, hI, hlk, hR⟩ := hC
  intro H locs la hH hS hL
  have hlt : 6 < nL := by have := hL.2.1; simp at this; omega
  obtain ⟨la', e1, hL'⟩ := am_st1 (i := 6) (vI (v + c0)) hL hlt rfl (am_hp (i := 5) rfl hp)
  have hg : la[6]? = some (.val (.int (Int32.ofInt v))) := hL.2.2 6 _ rfl
  intro T hT X
  obtain ⟨t, a1, b1⟩ := kk H locs la' hH hS hL' T hT X
  refine ⟨t, ?_, b1⟩
  have e2 : storeLocals la 6 (.int (Int32.ofInt v + Int32.ofInt c0)) = some la' := by rw [← Int32.ofInt_add]; exact e1
  jvm_step X.here [X.here.top, ↓top_set X.here.top, hx, hb, d, hg, e2]
  exact a1

theorem am_iinc7 {x : am_X} {cc : ByteArray} {own : String} {n mc ms : Nat} (hC : am_C x cc own n mc ms) {pc k z : Nat} {h : am_H} {st : List Value} {y0 y1 y2 y3 y4 y5 y6 : Option Value} {tl : List (Option Value)} {v c0 : Int} (d : decode cc pc = .ok (.iinc 7 c0, 3)) (hp : am_n2 y6 = true) (kk : am_W x (pc + 3) k z h (y0 :: y1 :: y2 :: y3 :: y4 :: y5 :: y6 :: some (vI (v + c0)) :: tl) (st)) : am_W x (pc) k z h (y0 :: y1 :: y2 :: y3 :: y4 :: y5 :: y6 :: some (vI v) :: tl) (st) := by
  obtain ⟨p, l, e, R, s, m, args, below, meth, c, Q, g, nL⟩ := x
  obtain ⟨hx, hb, hml, hown, hts, hI, hlk, hR⟩ := hC
  intro H locs la hH hS hL
  have hlt : 7 < nL := by have := hL.2.1; simp at this; omega
  obtain ⟨la', e1, hL'⟩ := am_st1 (i := 7) (vI (v + c0)) hL hlt rfl (am_hp (i := 6) rfl hp)
  have hg : la[7]? = some (.val (.int (Int32.ofInt v))) := hL.2.2 7 _ rfl
  intro T hT X
  obtain ⟨t, a1, b1⟩ := kk H locs la' hH hS hL' T hT X
  refine ⟨t, ?_, b1⟩
  have e2 : storeLocals la 7 (.int (Int32.ofInt v + Int32.ofInt c0)) = some la' := by rw [← Int32.ofInt_add]; exact e1
  jvm_step X.here [X.here.top, ↓top_set X.here.top, hx, hb, d, hg, e2]
  exact a1

theorem am_iinc8 {x : am_X} {cc : ByteArray} {own : String} {n mc ms : Nat} (hC : am_C x cc own n mc ms) {pc k z : Nat} {h : am_H} {st : List Value} {y0 y1 y2 y3 y4 y5 y6 y7 : Option Value} {tl : List (Option Value)} {v c0 : Int} (d : decode cc pc = .ok (.iinc 8 c0, 3)) (hp : am_n2 y7 = true) (kk : am_W x (pc + 3) k z h (y0 :: y1 :: y2 :: y3 :: y4 :: y5 :: y6 :: y7 :: some (vI (v + c0)) :: tl) (st)) : am_W x (pc) k z h (y0 :: y1 :: y2 :: y3 :: y4 :: y5 :: y6 :: y7 :: some (vI v) :: tl) (st) := by
  obtain ⟨p, l, e, R, s, m, args, below, meth, c, Q, g, nL⟩ := x
  obtain ⟨hx, hb, hml, hown, hts, hI, hlk, hR⟩ := hC
  intro H locs la hH hS hL
  have hlt : 8 < nL := by have := hL.2.1; simp at this; omega
  obtain ⟨la', e1, hL'⟩ := am_st1 (i := 8) (vI (v + c0)) hL hlt rfl (am_hp (i := 7) rfl hp)
  have hg : la[8]? = some (.val (.int (Int32.ofInt v))) := hL.2.2 8 _ rfl
  intro T hT X
  obtain ⟨t, a1, b1⟩ := kk H locs la' hH hS hL' T hT X
  refine ⟨t, ?_, b1⟩
  have e2 : storeLocals la 8 (.int (Int32.ofInt v + Int32.ofInt c0)) = some la' := by rw [← Int32.ofInt_add]; exact e1
  jvm_step X.here [X.here.top, ↓top_set X.here.top, hx, hb, d, hg, e2]
  exact a1

theorem am_iinc9 {x : am_X} {cc : ByteArray} {own : String} {n mc ms : Nat} (hC : am_C x cc own n mc ms) {pc k z : Nat} {h : am_H} {st : List Value} {y0 y1 y2 y3 y4 y5 y6 y7 y8 : Option Value} {tl : List (Option Value)} {v c0 : Int} (d : decode cc pc = .ok (.iinc 9 c0, 3)) (hp : am_n2 y8 = true) (kk : am_W x (pc + 3) k z h (y0 :: y1 :: y2 :: y3 :: y4 :: y5 :: y6 :: y7 :: y8 :: some (vI (v + c0)) :: tl) (st)) : am_W x (pc) k z h (y0 :: y1 :: y2 :: y3 :: y4 :: y5 :: y6 :: y7 :: y8 :: some (vI v) :: tl) (st) := by
  obtain ⟨p, l, e, R, s, m, args, below, meth, c, Q, g, nL⟩ := x
  obtain ⟨hx, hb, hml, hown, hts, hI, hlk, hR⟩ := hC
  intro H locs la hH hS hL
  have hlt : 9 < nL := by have := hL.2.1; simp at this; omega
  obtain ⟨la', e1, hL'⟩ := am_st1 (i := 9) (vI (v + c0)) hL hlt rfl (am_hp (i := 8) rfl hp)
  have hg : la[9]? = some (.val (.int (Int32.ofInt v))) := hL.2.2 9 _ rfl
  intro T hT X
  obtain ⟨t, a1, b1⟩ := kk H locs la' hH hS hL' T hT X
  refine ⟨t, ?_, b1⟩
  have e2 : storeLocals la 9 (.int (Int32.ofInt v + Int32.ofInt c0)) = some la' := by rw [← Int32.ofInt_add]; exact e1
  jvm_step X.here [X.here.top, ↓top_set X.here.top, hx, hb, d, hg, e2]
  exact a1

theorem am_iinc10 {x : am_X} {cc : ByteArray} {own : String} {n mc ms : Nat} (hC : am_C x cc own n mc ms) {pc k z : Nat} {h : am_H} {st : List Value} {y0 y1 y2 y3 y4 y5 y6 y7 y8 y9 : Option Value} {tl : List (Option Value)} {v c0 : Int} (d : decode cc pc = .ok (.iinc 10 c0, 3)) (hp : am_n2 y9 = true) (kk : am_W x (pc + 3) k z h (y0 :: y1 :: y2 :: y3 :: y4 :: y5 :: y6 :: y7 :: y8 :: y9 :: some (vI (v + c0)) :: tl) (st)) : am_W x (pc) k z h (y0 :: y1 :: y2 :: y3 :: y4 :: y5 :: y6 :: y7 :: y8 :: y9 :: some (vI v) :: tl) (st) := by
  obtain ⟨p, l, e, R, s, m, args, below, meth, c, Q, g, nL⟩ := x
  obtain ⟨hx, hb, hml, hown, hts, hI, hlk, hR⟩ := hC
  intro H locs la hH hS hL
  have hlt : 10 < nL := by have := hL.2.1; simp at this; omega
  obtain ⟨la', e1, hL'⟩ := am_st1 (i := 10) (vI (v + c0)) hL hlt rfl (am_hp (i := 9) rfl hp)
  have hg : la[10]? = some (.val (.int (Int32.ofInt v))) := hL.2.2 10 _ rfl
  intro T hT X
  obtain ⟨t, a1, b1⟩ := kk H locs la' hH hS hL' T hT X
  refine ⟨t, ?_, b1⟩
  have e2 : storeLocals la 10 (.int (Int32.ofInt v + Int32.ofInt c0)) = some la' := by rw [← Int32.ofInt_add]; exact e1
  jvm_step X.here [X.here.top, ↓top_set X.here.top, hx, hb, d, hg, e2]
  exact a1

theorem am_iinc11 {x : am_X} {cc : ByteArray} {own : String} {n mc ms : Nat} (hC : am_C x cc own n mc ms) {pc k z : Nat} {h : am_H} {st : List Value} {y0 y1 y2 y3 y4 y5 y6 y7 y8 y9 y10 : Option Value} {tl : List (Option Value)} {v c0 : Int} (d : decode cc pc = .ok (.iinc 11 c0, 3)) (hp : am_n2 y10 = true) (kk : am_W x (pc + 3) k z h (y0 :: y1 :: y2 :: y3 :: y4 :: y5 :: y6 :: y7 :: y8 :: y9 :: y10 :: some (vI (v + c0)) :: tl) (st)) : am_W x (pc) k z h (y0 :: y1 :: y2 :: y3 :: y4 :: y5 :: y6 :: y7 :: y8 :: y9 :: y10 :: some (vI v) :: tl) (st) := by
  obtain ⟨p, l, e, R, s, m, args, below, meth, c, Q, g, nL⟩ := x
  obtain ⟨hx, hb, hml, hown, hts, hI, hlk, hR⟩ := hC
  intro H locs la hH hS hL
  have hlt : 11 < nL := by have := hL.2.1; simp at this; omega
  obtain ⟨la', e1, hL'⟩ := am_st1 (i := 11) (vI (v + c0)) hL hlt rfl (am_hp (i := 10) rfl hp)
  have hg : la[11]? = some (.val (.int (Int32.ofInt v))) := hL.2.2 11 _ rfl
  intro T hT X
  obtain ⟨t, a1, b1⟩ := kk H locs la' hH hS hL' T hT X
  refine ⟨t, ?_, b1⟩
  have e2 : storeLocals la 11 (.int (Int32.ofInt v + Int32.ofInt c0)) = some la' := by rw [← Int32.ofInt_add]; exact e1
  jvm_step X.here [X.here.top, ↓top_set X.here.top, hx, hb, d, hg, e2]
  exact a1

theorem am_iinc12 {x : am_X} {cc : ByteArray} {own : String} {n mc ms : Nat} (hC : am_C x cc own n mc ms) {pc k z : Nat} {h : am_H} {st : List Value} {y0 y1 y2 y3 y4 y5 y6 y7 y8 y9 y10 y11 : Option Value} {tl : List (Option Value)} {v c0 : Int} (d : decode cc pc = .ok (.iinc 12 c0, 3)) (hp : am_n2 y11 = true) (kk : am_W x (pc + 3) k z h (y0 :: y1 :: y2 :: y3 :: y4 :: y5 :: y6 :: y7 :: y8 :: y9 :: y10 :: y11 :: some (vI (v + c0)) :: tl) (st)) : am_W x (pc) k z h (y0 :: y1 :: y2 :: y3 :: y4 :: y5 :: y6 :: y7 :: y8 :: y9 :: y10 :: y11 :: some (vI v) :: tl) (st) := by
  obtain ⟨p, l, e, R, s, m, args, below, meth, c, Q, g, nL⟩ := x
  obtain ⟨hx, hb, hml, hown, hts, hI, hlk, hR⟩ := hC
  intro H locs la hH hS hL
  have hlt : 12 < nL := by have := hL.2.1; simp at this; omega
  obtain ⟨la', e1, hL'⟩ := am_st1 (i := 12) (vI (v + c0)) hL hlt rfl (am_hp (i := 11) rfl hp)
  have hg : la[12]? = some (.val (.int (Int32.ofInt v))) := hL.2.2 12 _ rfl
  intro T hT X
  obtain ⟨t, a1, b1⟩ := kk H locs la' hH hS hL' T hT X
  refine ⟨t, ?_, b1⟩
  have e2 : storeLocals la 12 (.int (Int32.ofInt v + Int32.ofInt c0)) = some la' := by rw [← Int32.ofInt_add]; exact e1
  jvm_step X.here [X.here.top, ↓top_set X.here.top, hx, hb, d, hg, e2]
  exact a1

theorem am_iinc13 {x : am_X} {cc : ByteArray} {own : String} {n mc ms : Nat} (hC : am_C x cc own n mc ms) {pc k z : Nat} {h : am_H} {st : List Value} {y0 y1 y2 y3 y4 y5 y6 y7 y8 y9 y10 y11 y12 : Option Value} {tl : List (Option Value)} {v c0 : Int} (d : decode cc pc = .ok (.iinc 13 c0, 3)) (hp : am_n2 y12 = true) (kk : am_W x (pc + 3) k z h (y0 :: y1 :: y2 :: y3 :: y4 :: y5 :: y6 :: y7 :: y8 :: y9 :: y10 :: y11 :: y12 :: some (vI (v + c0)) :: tl) (st)) : am_W x (pc) k z h (y0 :: y1 :: y2 :: y3 :: y4 :: y5 :: y6 :: y7 :: y8 :: y9 :: y10 :: y11 :: y12 :: some (vI v) :: tl) (st) := by
  obtain ⟨p, l, e, R, s, m, args, below, meth, c, Q, g, nL⟩ := x
  obtain ⟨hx, hb, hml, hown, hts, hI, hlk, hR⟩ := hC
  intro H locs la hH hS hL
  have hlt : 13 < nL := by have := hL.2.1; simp at this; omega
  obtain ⟨la', e1, hL'⟩ := am_st1 (i := 13) (vI (v + c0)) hL hlt rfl (am_hp (i := 12) rfl hp)
  have hg : la[13]? = some (.val (.int (Int32.ofInt v))) := hL.2.2 13 _ rfl
  intro T hT X
  obtain ⟨t, a1, b1⟩ := kk H locs la' hH hS hL' T hT X
  refine ⟨t, ?_, b1⟩
  have e2 : storeLocals la 13 (.int (Int32.ofInt v + Int32.ofInt c0)) = some la' := by rw [← Int32.ofInt_add]; exact e1
  jvm_step X.here [X.here.top, ↓top_set X.here.top, hx, hb, d, hg, e2]
  exact a1

theorem am_iinc14 {x : am_X} {cc : ByteArray} {own : String} {n mc ms : Nat} (hC : am_C x cc own n mc ms) {pc k z : Nat} {h : am_H} {st : List Value} {y0 y1 y2 y3 y4 y5 y6 y7 y8 y9 y10 y11 y12 y13 : Option Value} {tl : List (Option Value)} {v c0 : Int} (d : decode cc pc = .ok (.iinc 14 c0, 3)) (hp : am_n2 y13 = true) (kk : am_W x (pc + 3) k z h (y0 :: y1 :: y2 :: y3 :: y4 :: y5 :: y6 :: y7 :: y8 :: y9 :: y10 :: y11 :: y12 :: y13 :: some (vI (v + c0)) :: tl) (st)) : am_W x (pc) k z h (y0 :: y1 :: y2 :: y3 :: y4 :: y5 :: y6 :: y7 :: y8 :: y9 :: y10 :: y11 :: y12 :: y13 :: some (vI v) :: tl) (st) := by
  obtain ⟨p, l, e, R, s, m, args, below, meth, c, Q, g, nL⟩ := x
  obtain ⟨hx, hb, hml, hown, hts, hI, hlk, hR⟩ := hC
  intro H locs la hH hS hL
  have hlt : 14 < nL := by have := hL.2.1; simp at this; omega
  obtain ⟨la', e1, hL'⟩ := am_st1 (i := 14) (vI (v + c0)) hL hlt rfl (am_hp (i := 13) rfl hp)
  have hg : la[14]? = some (.val (.int (Int32.ofInt v))) := hL.2.2 14 _ rfl
  intro T hT X
  obtain ⟨t, a1, b1⟩ := kk H locs la' hH hS hL' T hT X
  refine ⟨t, ?_, b1⟩
  have e2 : storeLocals la 14 (.int (Int32.ofInt v + Int32.ofInt c0)) = some la' := by rw [← Int32.ofInt_add]; exact e1
  jvm_step X.here [X.here.top, ↓top_set X.here.top, hx, hb, d, hg, e2]
  exact a1

theorem am_iinc15 {x : am_X} {cc : ByteArray} {own : String} {n mc ms : Nat} (hC : am_C x cc own n mc ms) {pc k z : Nat} {h : am_H} {st : List Value} {y0 y1 y2 y3 y4 y5 y6 y7 y8 y9 y10 y11 y12 y13 y14 : Option Value} {tl : List (Option Value)} {v c0 : Int} (d : decode cc pc = .ok (.iinc 15 c0, 3)) (hp : am_n2 y14 = true) (kk : am_W x (pc + 3) k z h (y0 :: y1 :: y2 :: y3 :: y4 :: y5 :: y6 :: y7 :: y8 :: y9 :: y10 :: y11 :: y12 :: y13 :: y14 :: some (vI (v + c0)) :: tl) (st)) : am_W x (pc) k z h (y0 :: y1 :: y2 :: y3 :: y4 :: y5 :: y6 :: y7 :: y8 :: y9 :: y10 :: y11 :: y12 :: y13 :: y14 :: some (vI v) :: tl) (st) := by
  obtain ⟨p, l, e, R, s, m, args, below, meth, c, Q, g, nL⟩ := x
  obtain ⟨hx, hb, hml, hown, hts, hI, hlk, hR⟩ := hC
  intro H locs la hH hS hL
  have hlt : 15 < nL := by have := hL.2.1; simp at this; omega
  obtain ⟨la', e1, hL'⟩ := am_st1 (i := 15) (vI (v + c0)) hL hlt rfl (am_hp (i := 14) rfl hp)
  have hg : la[15]? = some (.val (.int (Int32.ofInt v))) := hL.2.2 15 _ rfl
  intro T hT X
  obtain ⟨t, a1, b1⟩ := kk H locs la' hH hS hL' T hT X
  refine ⟨t, ?_, b1⟩
  have e2 : storeLocals la 15 (.int (Int32.ofInt v + Int32.ofInt c0)) = some la' := by rw [← Int32.ofInt_add]; exact e1
  jvm_step X.here [X.here.top, ↓top_set X.here.top, hx, hb, d, hg, e2]
  exact a1

theorem am_iadd {x : am_X} {cc : ByteArray} {own : String} {n mc ms : Nat} (hC : am_C x cc own n mc ms) {pc k z : Nat} {h : am_H} {ls : List (Option Value)} {st : List Value} {a b : Int} (d : decode cc pc = .ok (.iadd, 1)) (kk : am_W x (pc + 1) k z h ls (vI (a + b) :: st)) : am_W x (pc) k z h ls (vI b :: vI a :: st) := by
  obtain ⟨p, l, e, R, s, m, args, below, meth, c, Q, g, nL⟩ := x
  obtain ⟨hx, hb, hml, hown, hts, hI, hlk, hR⟩ := hC
  intro H locs la hH hS hL
  have h1 := kk H locs la hH hS hL
  refine lv_iadd hx hb d ?_
  rw [← Int32.ofInt_add]
  exact h1

theorem am_isub {x : am_X} {cc : ByteArray} {own : String} {n mc ms : Nat} (hC : am_C x cc own n mc ms) {pc k z : Nat} {h : am_H} {ls : List (Option Value)} {st : List Value} {a b : Int} (d : decode cc pc = .ok (.isub, 1)) (kk : am_W x (pc + 1) k z h ls (vI (a - b) :: st)) : am_W x (pc) k z h ls (vI b :: vI a :: st) := by
  obtain ⟨p, l, e, R, s, m, args, below, meth, c, Q, g, nL⟩ := x
  obtain ⟨hx, hb, hml, hown, hts, hI, hlk, hR⟩ := hC
  intro H locs la hH hS hL
  have h1 := kk H locs la hH hS hL
  refine lv_isub hx hb d ?_
  rw [← Int32.ofInt_sub]
  exact h1

theorem am_imul {x : am_X} {cc : ByteArray} {own : String} {n mc ms : Nat} (hC : am_C x cc own n mc ms) {pc k z : Nat} {h : am_H} {ls : List (Option Value)} {st : List Value} {a b : Int} (d : decode cc pc = .ok (.imul, 1)) (kk : am_W x (pc + 1) k z h ls (vI (a * b) :: st)) : am_W x (pc) k z h ls (vI b :: vI a :: st) := by
  obtain ⟨p, l, e, R, s, m, args, below, meth, c, Q, g, nL⟩ := x
  obtain ⟨hx, hb, hml, hown, hts, hI, hlk, hR⟩ := hC
  intro H locs la hH hS hL
  have h1 := kk H locs la hH hS hL
  refine lv_imul hx hb d ?_
  rw [← Int32.ofInt_mul]
  exact h1

theorem am_ladd {x : am_X} {cc : ByteArray} {own : String} {n mc ms : Nat} (hC : am_C x cc own n mc ms) {pc k z : Nat} {h : am_H} {ls : List (Option Value)} {st : List Value} {a b : Int} (d : decode cc pc = .ok (.ladd, 1)) (kk : am_W x (pc + 1) k z h ls (vL (a + b) :: st)) : am_W x (pc) k z h ls (vL b :: vL a :: st) := by
  obtain ⟨p, l, e, R, s, m, args, below, meth, c, Q, g, nL⟩ := x
  obtain ⟨hx, hb, hml, hown, hts, hI, hlk, hR⟩ := hC
  intro H locs la hH hS hL
  have h1 := kk H locs la hH hS hL
  refine lv_ladd hx hb d ?_
  rw [← Int64.ofInt_add]
  exact h1

theorem am_lsub {x : am_X} {cc : ByteArray} {own : String} {n mc ms : Nat} (hC : am_C x cc own n mc ms) {pc k z : Nat} {h : am_H} {ls : List (Option Value)} {st : List Value} {a b : Int} (d : decode cc pc = .ok (.lsub, 1)) (kk : am_W x (pc + 1) k z h ls (vL (a - b) :: st)) : am_W x (pc) k z h ls (vL b :: vL a :: st) := by
  obtain ⟨p, l, e, R, s, m, args, below, meth, c, Q, g, nL⟩ := x
  obtain ⟨hx, hb, hml, hown, hts, hI, hlk, hR⟩ := hC
  intro H locs la hH hS hL
  have h1 := kk H locs la hH hS hL
  refine lv_lsub hx hb d ?_
  rw [← Int64.ofInt_sub]
  exact h1

theorem am_lmul {x : am_X} {cc : ByteArray} {own : String} {n mc ms : Nat} (hC : am_C x cc own n mc ms) {pc k z : Nat} {h : am_H} {ls : List (Option Value)} {st : List Value} {a b : Int} (d : decode cc pc = .ok (.lmul, 1)) (kk : am_W x (pc + 1) k z h ls (vL (a * b) :: st)) : am_W x (pc) k z h ls (vL b :: vL a :: st) := by
  obtain ⟨p, l, e, R, s, m, args, below, meth, c, Q, g, nL⟩ := x
  obtain ⟨hx, hb, hml, hown, hts, hI, hlk, hR⟩ := hC
  intro H locs la hH hS hL
  have h1 := kk H locs la hH hS hL
  refine lv_lmul hx hb d ?_
  rw [← Int64.ofInt_mul]
  exact h1

theorem am_lneg {x : am_X} {cc : ByteArray} {own : String} {n mc ms : Nat} (hC : am_C x cc own n mc ms) {pc k z : Nat} {h : am_H} {ls : List (Option Value)} {st : List Value} {a : Int} (d : decode cc pc = .ok (.lneg, 1)) (kk : am_W x (pc + 1) k z h ls (vL (-a) :: st)) : am_W x (pc) k z h ls (vL a :: st) := by
  obtain ⟨p, l, e, R, s, m, args, below, meth, c, Q, g, nL⟩ := x
  obtain ⟨hx, hb, hml, hown, hts, hI, hlk, hR⟩ := hC
  intro H locs la hH hS hL
  have h1 := kk H locs la hH hS hL
  refine lv_lneg hx hb d ?_
  rw [← Int64.ofInt_neg]
  exact h1

theorem am_ineg {x : am_X} {cc : ByteArray} {own : String} {n mc ms : Nat} (hC : am_C x cc own n mc ms) {pc k z : Nat} {h : am_H} {ls : List (Option Value)} {st : List Value} {a : Int} (d : decode cc pc = .ok (.ineg, 1)) (kk : am_W x (pc + 1) k z h ls (vI (-a) :: st)) : am_W x (pc) k z h ls (vI a :: st) := by
  obtain ⟨p, l, e, R, s, m, args, below, meth, c, Q, g, nL⟩ := x
  obtain ⟨hx, hb, hml, hown, hts, hI, hlk, hR⟩ := hC
  intro H locs la hH hS hL
  have h1 := kk H locs la hH hS hL
  refine lv_ineg hx hb d ?_
  rw [← Int32.ofInt_neg]
  exact h1

theorem am_idiv {x : am_X} {cc : ByteArray} {own : String} {n mc ms : Nat} (hC : am_C x cc own n mc ms) {pc k z : Nat} {h : am_H} {ls : List (Option Value)} {st : List Value} {a b : Int} (d : decode cc pc = .ok (.idiv, 1)) (ha : -2147483648 ≤ a ∧ a ≤ 2147483647) (hb2 : -2147483648 ≤ b ∧ b ≤ 2147483647) (h0 : b ≠ 0) (kk : am_W x (pc + 1) k z h ls (vI (a.tdiv b) :: st)) : am_W x (pc) k z h ls (vI b :: vI a :: st) := by
  obtain ⟨p, l, e, R, s, m, args, below, meth, c, Q, g, nL⟩ := x
  obtain ⟨hx, hb, hml, hown, hts, hI, hlk, hR⟩ := hC
  intro H locs la hH hS hL
  have h1 := kk H locs la hH hS hL
  refine lv_idiv hx hb d (fun q => h0 ((am_eq32 hb2 (by omega)).mp q)) ?_
  rw [show Int32.ofInt a / Int32.ofInt b = Int32.ofInt (a.tdiv b) from (Int32.ofInt_tdiv (am_mn32 ha) (am_mx32 ha) (am_mn32 hb2) (am_mx32 hb2)).symm]
  exact h1

theorem am_ldiv {x : am_X} {cc : ByteArray} {own : String} {n mc ms : Nat} (hC : am_C x cc own n mc ms) {pc k z : Nat} {h : am_H} {ls : List (Option Value)} {st : List Value} {a b : Int} (d : decode cc pc = .ok (.ldiv, 1)) (ha : -9223372036854775808 ≤ a ∧ a ≤ 9223372036854775807) (hb2 : -9223372036854775808 ≤ b ∧ b ≤ 9223372036854775807) (h0 : b ≠ 0) (kk : am_W x (pc + 1) k z h ls (vL (a.tdiv b) :: st)) : am_W x (pc) k z h ls (vL b :: vL a :: st) := by
  obtain ⟨p, l, e, R, s, m, args, below, meth, c, Q, g, nL⟩ := x
  obtain ⟨hx, hb, hml, hown, hts, hI, hlk, hR⟩ := hC
  intro H locs la hH hS hL
  have h1 := kk H locs la hH hS hL
  refine lv_ldiv hx hb d (fun q => h0 ((am_eq64 hb2 (by omega)).mp q)) ?_
  rw [show Int64.ofInt a / Int64.ofInt b = Int64.ofInt (a.tdiv b) from (Int64.ofInt_tdiv (am_mn64 ha) (am_mx64 ha) (am_mn64 hb2) (am_mx64 hb2)).symm]
  exact h1

theorem am_irem {x : am_X} {cc : ByteArray} {own : String} {n mc ms : Nat} (hC : am_C x cc own n mc ms) {pc k z : Nat} {h : am_H} {ls : List (Option Value)} {st : List Value} {a b : Int} (d : decode cc pc = .ok (.irem, 1)) (ha : -2147483648 ≤ a ∧ a ≤ 2147483647) (hb2 : -2147483648 ≤ b ∧ b ≤ 2147483647) (h0 : b ≠ 0) (kk : am_W x (pc + 1) k z h ls (vI (a.tmod b) :: st)) : am_W x (pc) k z h ls (vI b :: vI a :: st) := by
  obtain ⟨p, l, e, R, s, m, args, below, meth, c, Q, g, nL⟩ := x
  obtain ⟨hx, hb, hml, hown, hts, hI, hlk, hR⟩ := hC
  intro H locs la hH hS hL
  have h1 := kk H locs la hH hS hL
  refine lv_irem hx hb d (fun q => h0 ((am_eq32 hb2 (by omega)).mp q)) ?_
  rw [show Int32.ofInt a / Int32.ofInt b = Int32.ofInt (a.tdiv b) from (Int32.ofInt_tdiv (am_mn32 ha) (am_mx32 ha) (am_mn32 hb2) (am_mx32 hb2)).symm, ← Int32.ofInt_mul, ← Int32.ofInt_sub, show a - a.tdiv b * b = a.tmod b by rw [Int.mul_comm, Int.tmod_def]]
  exact h1

theorem am_lrem {x : am_X} {cc : ByteArray} {own : String} {n mc ms : Nat} (hC : am_C x cc own n mc ms) {pc k z : Nat} {h : am_H} {ls : List (Option Value)} {st : List Value} {a b : Int} (d : decode cc pc = .ok (.lrem, 1)) (ha : -9223372036854775808 ≤ a ∧ a ≤ 9223372036854775807) (hb2 : -9223372036854775808 ≤ b ∧ b ≤ 9223372036854775807) (h0 : b ≠ 0) (kk : am_W x (pc + 1) k z h ls (vL (a.tmod b) :: st)) : am_W x (pc) k z h ls (vL b :: vL a :: st) := by
  obtain ⟨p, l, e, R, s, m, args, below, meth, c, Q, g, nL⟩ := x
  obtain ⟨hx, hb, hml, hown, hts, hI, hlk, hR⟩ := hC
  intro H locs la hH hS hL
  have h1 := kk H locs la hH hS hL
  refine lv_lrem hx hb d (fun q => h0 ((am_eq64 hb2 (by omega)).mp q)) ?_
  rw [show Int64.ofInt a / Int64.ofInt b = Int64.ofInt (a.tdiv b) from (Int64.ofInt_tdiv (am_mn64 ha) (am_mx64 ha) (am_mn64 hb2) (am_mx64 hb2)).symm, ← Int64.ofInt_mul, ← Int64.ofInt_sub, show a - a.tdiv b * b = a.tmod b by rw [Int.mul_comm, Int.tmod_def]]
  exact h1

theorem am_bv32 (a : Int) : (Int32.ofInt a).toBitVec = BitVec.ofInt 32 a := rfl
theorem am_bv64 (a : Int) : (Int64.ofInt a).toBitVec = BitVec.ofInt 64 a := rfl
theorem am_bvmask (n : Nat) (a : Int) (j : Nat) (hj : j ≤ n) : BitVec.ofInt n a &&& BitVec.ofInt n (2 ^ j - 1) = BitVec.ofInt n (a % 2 ^ j) := by
  have h2 : (0 : Int) < 2 ^ n := by exact_mod_cast Nat.two_pow_pos n
  have hj2 : (0 : Int) < 2 ^ j := by exact_mod_cast Nat.two_pow_pos j
  have hle : (2 : Int) ^ j ≤ 2 ^ n := by exact_mod_cast Nat.pow_le_pow_right (by omega) hj
  apply BitVec.eq_of_toNat_eq
  rw [BitVec.toNat_and, BitVec.toNat_ofInt, BitVec.toNat_ofInt, BitVec.toNat_ofInt]
  have e1 : ((2 ^ j - 1 : Int) % ((2 ^ n : Nat) : Int)).toNat = 2 ^ j - 1 := by
    have e0 : ((2 ^ n : Nat) : Int) = 2 ^ n := by push_cast; rfl
    rw [e0, Int.emod_eq_of_lt (by omega) (by omega)]
    have : ((2 ^ j : Nat) : Int) = 2 ^ j := by push_cast; rfl
    omega
  rw [e1, Nat.and_two_pow_sub_one_eq_mod]
  have e0 : ((2 ^ n : Nat) : Int) = 2 ^ n := by push_cast; rfl
  have ej : ((2 ^ j : Nat) : Int) = 2 ^ j := by push_cast; rfl
  rw [e0]
  have h3 : 0 ≤ a % 2 ^ n := Int.emod_nonneg _ (by omega)
  have h4 : 0 ≤ a % 2 ^ j := Int.emod_nonneg _ (by omega)
  have h5 : a % 2 ^ j < 2 ^ j := Int.emod_lt_of_pos _ hj2
  rw [Int.emod_eq_of_lt h4 (by omega)]
  apply Int.ofNat.inj
  show ((_ : Nat) : Int) = ((_ : Nat) : Int)
  rw [Int.natCast_emod, Int.toNat_of_nonneg h3, Int.toNat_of_nonneg h4, ej]
  exact Int.emod_emod_of_dvd a (by exact_mod_cast Nat.pow_dvd_pow 2 hj)
theorem am_mask32 (a : Int) (j : Nat) (hj : j ≤ 32) : Int32.ofInt a &&& Int32.ofInt (2 ^ j - 1) = Int32.ofInt (a % 2 ^ j) := by
  apply Int32.toBitVec_inj.mp
  rw [Int32.toBitVec_and]
  exact am_bvmask 32 a j hj
theorem am_mask64 (a : Int) (j : Nat) (hj : j ≤ 64) : Int64.ofInt a &&& Int64.ofInt (2 ^ j - 1) = Int64.ofInt (a % 2 ^ j) := by
  apply Int64.toBitVec_inj.mp
  rw [Int64.toBitVec_and]
  exact am_bvmask 64 a j hj

theorem am_iand {x : am_X} {cc : ByteArray} {own : String} {n mc ms : Nat} (hC : am_C x cc own n mc ms) {pc k z : Nat} {h : am_H} {ls : List (Option Value)} {st : List Value} {a b : Int} (j : Nat) (b2 : Int) (d : decode cc pc = .ok (.iand, 1)) (hj : j ≤ 32) (hm : b = 2 ^ j - 1) (hm2 : b2 = 2 ^ j) (kk : am_W x (pc + 1) k z h ls (vI (a % b2) :: st)) : am_W x (pc) k z h ls (vI b :: vI a :: st) := by
  obtain ⟨p, l, e, R, s, m, args, below, meth, c, Q, g, nL⟩ := x
  obtain ⟨hx, hb, hml, hown, hts, hI, hlk, hR⟩ := hC
  intro H locs la hH hS hL
  subst hm
  subst hm2
  have h1 := kk H locs la hH hS hL
  refine lv_iand hx hb d ?_
  rw [am_mask32 a j hj]
  exact h1

theorem am_land {x : am_X} {cc : ByteArray} {own : String} {n mc ms : Nat} (hC : am_C x cc own n mc ms) {pc k z : Nat} {h : am_H} {ls : List (Option Value)} {st : List Value} {a b : Int} (j : Nat) (b2 : Int) (d : decode cc pc = .ok (.land, 1)) (hj : j ≤ 64) (hm : b = 2 ^ j - 1) (hm2 : b2 = 2 ^ j) (kk : am_W x (pc + 1) k z h ls (vL (a % b2) :: st)) : am_W x (pc) k z h ls (vL b :: vL a :: st) := by
  obtain ⟨p, l, e, R, s, m, args, below, meth, c, Q, g, nL⟩ := x
  obtain ⟨hx, hb, hml, hown, hts, hI, hlk, hR⟩ := hC
  intro H locs la hH hS hL
  subst hm
  subst hm2
  have h1 := kk H locs la hH hS hL
  refine lv_land hx hb d ?_
  rw [am_mask64 a j hj]
  exact h1

theorem am_bvor (n : Nat) (a b : Int) (j : Nat) (hj : j ≤ n) (ha : 0 ≤ a ∧ a < 2 ^ j) (hb : b % 2 ^ j = 0) : BitVec.ofInt n a ||| BitVec.ofInt n b = BitVec.ofInt n (a + b) := by
  have hn : (0 : Int) < 2 ^ n := by exact_mod_cast Nat.two_pow_pos n
  have hj2 : (0 : Int) < 2 ^ j := by exact_mod_cast Nat.two_pow_pos j
  have hle : (2 : Int) ^ j ≤ 2 ^ n := by exact_mod_cast Nat.pow_le_pow_right (by omega) hj
  have hd : (2 : Int) ^ j ∣ 2 ^ n := by exact_mod_cast Nat.pow_dvd_pow 2 hj
  have e0 : ((2 ^ n : Nat) : Int) = 2 ^ n := by push_cast; rfl
  have ej : ((2 ^ j : Nat) : Int) = 2 ^ j := by push_cast; rfl
  rw [← BitVec.add_eq_or_of_and_eq_zero, ← BitVec.ofInt_add]
  apply BitVec.eq_of_toNat_eq
  rw [BitVec.toNat_and, BitVec.toNat_ofInt, BitVec.toNat_ofInt, e0, BitVec.toNat_ofNat, Nat.zero_mod]
  apply Nat.eq_of_testBit_eq
  intro i
  rw [Nat.testBit_and, Nat.zero_testBit]
  have h3 : 0 ≤ b % 2 ^ n := Int.emod_nonneg _ (by omega)
  by_cases hi : i < j
  · have h4 : (b % 2 ^ n).toNat % 2 ^ j = 0 := by
      apply Int.ofNat.inj
      show ((_ : Nat) : Int) = ((_ : Nat) : Int)
      rw [Int.natCast_emod, Int.toNat_of_nonneg h3, ej, Int.emod_emod_of_dvd b hd, hb]
      rfl
    have h5 : ((b % 2 ^ n).toNat % 2 ^ j).testBit i = (b % 2 ^ n).toNat.testBit i := by rw [Nat.testBit_mod_two_pow]; simp [hi]
    rw [h4, Nat.zero_testBit] at h5
    rw [← h5, Bool.and_false]
  · have h6 : (a % 2 ^ n).toNat < 2 ^ i := by
      rw [Int.emod_eq_of_lt ha.1 (by omega)]
      have h7 : a.toNat < 2 ^ j := by omega
      exact Nat.lt_of_lt_of_le h7 (Nat.pow_le_pow_right (by omega) (by omega))
    rw [Nat.testBit_lt_two_pow h6, Bool.false_and]
theorem am_or32 {a b : Int} (j : Nat) (hj : j ≤ 32) (ha : 0 ≤ a ∧ a < 2 ^ j) (hb : b % 2 ^ j = 0) : Int32.ofInt a ||| Int32.ofInt b = Int32.ofInt (a + b) := by
  apply Int32.toBitVec_inj.mp
  rw [Int32.toBitVec_or]
  exact am_bvor 32 a b j hj ha hb
theorem am_or64 {a b : Int} (j : Nat) (hj : j ≤ 64) (ha : 0 ≤ a ∧ a < 2 ^ j) (hb : b % 2 ^ j = 0) : Int64.ofInt a ||| Int64.ofInt b = Int64.ofInt (a + b) := by
  apply Int64.toBitVec_inj.mp
  rw [Int64.toBitVec_or]
  exact am_bvor 64 a b j hj ha hb
theorem am_or64' {a b : Int} (j : Nat) (hj : j ≤ 64) (ha : 0 ≤ a ∧ a < 2 ^ j) (hb : b % 2 ^ j = 0) : Int64.ofInt b ||| Int64.ofInt a = Int64.ofInt (b + a) := by
  have e : Int64.ofInt b ||| Int64.ofInt a = Int64.ofInt a ||| Int64.ofInt b := Int64.or_comm _ _
  rw [e, am_or64 j hj ha hb, Int.add_comm]

theorem am_ior {x : am_X} {cc : ByteArray} {own : String} {n mc ms : Nat} (hC : am_C x cc own n mc ms) {pc k z : Nat} {h : am_H} {ls : List (Option Value)} {st : List Value} {a b : Int} (j : Nat) (d : decode cc pc = .ok (.ior, 1)) (hj : j ≤ 32) (ha : 0 ≤ a ∧ a < 2 ^ j) (hb2 : b % 2 ^ j = 0) (kk : am_W x (pc + 1) k z h ls (vI (a + b) :: st)) : am_W x (pc) k z h ls (vI b :: vI a :: st) := by
  obtain ⟨p, l, e, R, s, m, args, below, meth, c, Q, g, nL⟩ := x
  obtain ⟨hx, hb, hml, hown, hts, hI, hlk, hR⟩ := hC
  intro H locs la hH hS hL
  have h1 := kk H locs la hH hS hL
  refine lv_ior hx hb d ?_
  rw [am_or32 j hj ha hb2]
  exact h1

theorem am_lor {x : am_X} {cc : ByteArray} {own : String} {n mc ms : Nat} (hC : am_C x cc own n mc ms) {pc k z : Nat} {h : am_H} {ls : List (Option Value)} {st : List Value} {a b : Int} (j : Nat) (d : decode cc pc = .ok (.lor, 1)) (hj : j ≤ 64) (ha : 0 ≤ a ∧ a < 2 ^ j) (hb2 : b % 2 ^ j = 0) (kk : am_W x (pc + 1) k z h ls (vL (a + b) :: st)) : am_W x (pc) k z h ls (vL b :: vL a :: st) := by
  obtain ⟨p, l, e, R, s, m, args, below, meth, c, Q, g, nL⟩ := x
  obtain ⟨hx, hb, hml, hown, hts, hI, hlk, hR⟩ := hC
  intro H locs la hH hS hL
  have h1 := kk H locs la hH hS hL
  refine lv_lor hx hb d ?_
  rw [am_or64 j hj ha hb2]
  exact h1

theorem am_lor2 {x : am_X} {cc : ByteArray} {own : String} {n mc ms : Nat} (hC : am_C x cc own n mc ms) {pc k z : Nat} {h : am_H} {ls : List (Option Value)} {st : List Value} {a b : Int} (j : Nat) (d : decode cc pc = .ok (.lor, 1)) (hj : j ≤ 64) (ha : 0 ≤ a ∧ a < 2 ^ j) (hb2 : b % 2 ^ j = 0) (kk : am_W x (pc + 1) k z h ls (vL (b + a) :: st)) : am_W x (pc) k z h ls (vL a :: vL b :: st) := by
  obtain ⟨p, l, e, R, s, m, args, below, meth, c, Q, g, nL⟩ := x
  obtain ⟨hx, hb, hml, hown, hts, hI, hlk, hR⟩ := hC
  intro H locs la hH hS hL
  have h1 := kk H locs la hH hS hL
  refine lv_lor hx hb d ?_
  rw [am_or64' j hj ha hb2]
  exact h1

theorem am_smod32 {s : Int} {j : Nat} (hs : s = j) (hj : j < 32) : ((Int32.ofInt s).toBitVec.smod 32).toNat = j := by
  subst hs
  have : ∀ j : Fin 32, ((Int32.ofInt ((j : Nat) : Int)).toBitVec.smod 32).toNat = (j : Nat) := by decide +kernel
  exact this ⟨j, hj⟩
theorem am_l31 {s : Int} {j : Nat} (hs : s = j) (hj : j < 32) : (Int32.ofInt s &&& 31) = Int32.ofInt (j : Int) := by
  subst hs
  have : ∀ j : Fin 32, (Int32.ofInt ((j : Nat) : Int) &&& 31) = Int32.ofInt ((j : Nat) : Int) := by decide +kernel
  exact this ⟨j, hj⟩
theorem am_l63 {s : Int} {j : Nat} (hs : s = j) (hj : j < 64) : ((Int32.ofInt s).toInt64 &&& 63) = Int64.ofInt (j : Int) := by
  subst hs
  have : ∀ j : Fin 64, ((Int32.ofInt ((j : Nat) : Int)).toInt64 &&& 63) = Int64.ofInt ((j : Nat) : Int) := by decide +kernel
  exact this ⟨j, hj⟩
theorem am_smod64 {j : Nat} (hj : j < 64) : ((Int64.ofInt (j : Int)).toBitVec.smod 64).toNat = j := by
  have : ∀ j : Fin 64, ((Int64.ofInt ((j : Nat) : Int)).toBitVec.smod 64).toNat = (j : Nat) := by decide +kernel
  exact this ⟨j, hj⟩
theorem am_bvshl (n : Nat) (a : Int) (j : Nat) : BitVec.ofInt n a <<< j = BitVec.ofInt n (a * 2 ^ j) := by
  rw [BitVec.shiftLeft_eq_mul_twoPow, BitVec.ofInt_mul]
  congr 1
  apply BitVec.eq_of_toNat_eq
  rw [BitVec.toNat_twoPow, BitVec.toNat_ofInt]
  have ej : ((2 ^ j : Nat) : Int) = 2 ^ j := by push_cast; rfl
  rw [← ej, ← Int.natCast_emod, Int.toNat_natCast]
theorem am_bvsshr {n : Nat} (a : Int) (j : Nat) (h : (BitVec.ofInt n a).toInt = a) (h2 : (BitVec.ofInt n (a / 2 ^ j)).toInt = a / 2 ^ j) : (BitVec.ofInt n a).sshiftRight j = BitVec.ofInt n (a / 2 ^ j) := by
  apply BitVec.eq_of_toInt_eq
  rw [BitVec.toInt_sshiftRight, h, h2, Int.shiftRight_eq_div_pow]
  push_cast
  rfl
theorem am_divr {a : Int} (j : Nat) {M : Int} (h : -M ≤ a ∧ a ≤ M - 1) : -M ≤ a / 2 ^ j ∧ a / 2 ^ j ≤ M - 1 := by
  have hj2 : (1 : Int) ≤ 2 ^ j := by exact_mod_cast Nat.two_pow_pos j
  have h1 : (2 : Int) ^ j * (a / 2 ^ j) ≤ a := Int.mul_ediv_self_le (by omega)
  have h2 : a < 2 ^ j * (a / 2 ^ j) + 2 ^ j := Int.lt_mul_ediv_self_add (by omega)
  generalize a / 2 ^ j = q at h1 h2
  generalize (2 : Int) ^ j = t at *
  constructor
  · rcases Int.lt_or_le q (-M) with c | c
    · exfalso
      have c1 : q + 1 ≤ -M := by omega
      by_cases hM : 0 ≤ M
      · have h3 : t * (q + 1) ≤ t * (-M) := Int.mul_le_mul_of_nonneg_left c1 (by omega)
        have h4 : t * (-M) ≤ 1 * (-M) := by
          rw [Int.mul_neg, Int.mul_neg]
          have := Int.mul_le_mul_of_nonneg_right hj2 hM
          omega
        rw [Int.mul_add] at h3
        omega
      · omega
    · exact c
  · rcases Int.lt_or_le (M - 1) q with c | c
    · exfalso
      by_cases hM : 0 ≤ M
      · have h3 : t * M ≤ t * q := Int.mul_le_mul_of_nonneg_left (by omega) (by omega)
        have h4 : 1 * M ≤ t * M := Int.mul_le_mul_of_nonneg_right hj2 hM
        omega
      · omega
    · exact c

theorem am_ishl {x : am_X} {cc : ByteArray} {own : String} {n mc ms : Nat} (hC : am_C x cc own n mc ms) {pc k z : Nat} {h : am_H} {ls : List (Option Value)} {st : List Value} {a s0 : Int} (j : Nat) (d : decode cc pc = .ok (.ishl, 1)) (hs : s0 = j) (hj : j < 32) (kk : am_W x (pc + 1) k z h ls (vI (a * 2 ^ j) :: st)) : am_W x (pc) k z h ls (vI s0 :: vI a :: st) := by
  obtain ⟨p, l, e, R, s, m, args, below, meth, c, Q, g, nL⟩ := x
  obtain ⟨hx, hb, hml, hown, hts, hI, hlk, hR⟩ := hC
  intro H locs la hH hS hL
  have h1 := kk H locs la hH hS hL
  refine lv_ishl hx hb d ?_
  rw [am_l31 hs hj, show Int32.ofInt a <<< Int32.ofInt (j : Int) = Int32.ofInt (a * 2 ^ j) from by
    apply Int32.toBitVec_inj.mp
    rw [Int32.toBitVec_shiftLeft, BitVec.shiftLeft_eq', am_smod32 rfl hj]
    exact am_bvshl 32 a j]
  exact h1

theorem am_lshl {x : am_X} {cc : ByteArray} {own : String} {n mc ms : Nat} (hC : am_C x cc own n mc ms) {pc k z : Nat} {h : am_H} {ls : List (Option Value)} {st : List Value} {a s0 : Int} (j : Nat) (d : decode cc pc = .ok (.lshl, 1)) (hs : s0 = j) (hj : j < 64) (kk : am_W x (pc + 1) k z h ls (vL (a * 2 ^ j) :: st)) : am_W x (pc) k z h ls (vI s0 :: vL a :: st) := by
  obtain ⟨p, l, e, R, s, m, args, below, meth, c, Q, g, nL⟩ := x
  obtain ⟨hx, hb, hml, hown, hts, hI, hlk, hR⟩ := hC
  intro H locs la hH hS hL
  have h1 := kk H locs la hH hS hL
  refine lv_lshl hx hb d (v := Int64.ofInt (a * 2 ^ j)) ?_ h1
  rw [am_l63 hs hj]
  apply Int64.toBitVec_inj.mp
  rw [Int64.toBitVec_shiftLeft, BitVec.shiftLeft_eq', am_smod64 hj]
  exact am_bvshl 64 a j

theorem am_ishr {x : am_X} {cc : ByteArray} {own : String} {n mc ms : Nat} (hC : am_C x cc own n mc ms) {pc k z : Nat} {h : am_H} {ls : List (Option Value)} {st : List Value} {a s0 : Int} (j : Nat) (d : decode cc pc = .ok (.ishr, 1)) (ha : -2147483648 ≤ a ∧ a ≤ 2147483647) (hs : s0 = j) (hj : j < 32) (kk : am_W x (pc + 1) k z h ls (vI (a / 2 ^ j) :: st)) : am_W x (pc) k z h ls (vI s0 :: vI a :: st) := by
  obtain ⟨p, l, e, R, s, m, args, below, meth, c, Q, g, nL⟩ := x
  obtain ⟨hx, hb, hml, hown, hts, hI, hlk, hR⟩ := hC
  intro H locs la hH hS hL
  have h1 := kk H locs la hH hS hL
  have h2 := am_divr j (M := 2147483648) (a := a) (by omega)
  refine lv_ishr hx hb d ?_
  rw [am_l31 hs hj, show Int32.ofInt a >>> Int32.ofInt (j : Int) = Int32.ofInt (a / 2 ^ j) from by
    apply Int32.toBitVec_inj.mp
    rw [Int32.toBitVec_shiftRight, BitVec.sshiftRight_eq', am_smod32 rfl hj]
    exact am_bvsshr a j (am_t32 ha) (am_t32 (by omega))]
  exact h1

theorem am_lshr {x : am_X} {cc : ByteArray} {own : String} {n mc ms : Nat} (hC : am_C x cc own n mc ms) {pc k z : Nat} {h : am_H} {ls : List (Option Value)} {st : List Value} {a s0 : Int} (j : Nat) (d : decode cc pc = .ok (.lshr, 1)) (ha : -9223372036854775808 ≤ a ∧ a ≤ 9223372036854775807) (hs : s0 = j) (hj : j < 64) (kk : am_W x (pc + 1) k z h ls (vL (a / 2 ^ j) :: st)) : am_W x (pc) k z h ls (vI s0 :: vL a :: st) := by
  obtain ⟨p, l, e, R, s, m, args, below, meth, c, Q, g, nL⟩ := x
  obtain ⟨hx, hb, hml, hown, hts, hI, hlk, hR⟩ := hC
  intro H locs la hH hS hL
  have h1 := kk H locs la hH hS hL
  have h2 := am_divr j (M := 9223372036854775808) (a := a) (by omega)
  refine lv_lshr hx hb d (v := Int64.ofInt (a / 2 ^ j)) ?_ h1
  rw [am_l63 hs hj]
  apply Int64.toBitVec_inj.mp
  rw [Int64.toBitVec_shiftRight, BitVec.sshiftRight_eq', am_smod64 hj]
  exact am_bvsshr a j (am_t64 ha) (am_t64 (by omega))

theorem am_u63 {s : Int} {j : Nat} (hs : s = j) (hj : j < 64) : ((((Int32.ofInt s).toInt64.toUInt64 &&& Int64.toUInt64 63)).toBitVec % 64).toNat = j := by
  subst hs
  have : ∀ j : Fin 64, ((((Int32.ofInt ((j : Nat) : Int)).toInt64.toUInt64 &&& Int64.toUInt64 63)).toBitVec % 64).toNat = (j : Nat) := by decide +kernel
  exact this ⟨j, hj⟩
theorem am_u31 {s : Int} {j : Nat} (hs : s = j) (hj : j < 32) : ((((Int32.ofInt s).toUInt32 &&& Int32.toUInt32 31)).toBitVec % 32).toNat = j := by
  subst hs
  have : ∀ j : Fin 32, ((((Int32.ofInt ((j : Nat) : Int)).toUInt32 &&& Int32.toUInt32 31)).toBitVec % 32).toNat = (j : Nat) := by decide +kernel
  exact this ⟨j, hj⟩
theorem am_bvushr {n : Nat} (a : Int) (j : Nat) : BitVec.ofInt n a >>> j = BitVec.ofInt n (a % 2 ^ n / 2 ^ j) := by
  have e0 : ((2 ^ n : Nat) : Int) = 2 ^ n := by push_cast; rfl
  have ej : ((2 ^ j : Nat) : Int) = 2 ^ j := by push_cast; rfl
  have hn : (0 : Int) < 2 ^ n := by exact_mod_cast Nat.two_pow_pos n
  have hj2 : (0 : Int) < 2 ^ j := by exact_mod_cast Nat.two_pow_pos j
  have h1 : 0 ≤ a % 2 ^ n := Int.emod_nonneg _ (by omega)
  have h2 : a % 2 ^ n < 2 ^ n := Int.emod_lt_of_pos _ hn
  have h3 : 0 ≤ a % 2 ^ n / 2 ^ j := Int.ediv_nonneg h1 (by omega)
  have h4 : a % 2 ^ n / 2 ^ j ≤ a % 2 ^ n := Int.ediv_le_self _ h1
  apply BitVec.eq_of_toNat_eq
  rw [BitVec.toNat_ushiftRight, BitVec.toNat_ofInt, BitVec.toNat_ofInt, e0, Nat.shiftRight_eq_div_pow, Int.emod_eq_of_lt h3 (by omega)]
  apply Int.ofNat.inj
  show ((_ : Nat) : Int) = ((_ : Nat) : Int)
  rw [Int.natCast_ediv, Int.toNat_of_nonneg h1, Int.toNat_of_nonneg h3, ej]

theorem am_lushr {x : am_X} {cc : ByteArray} {own : String} {n mc ms : Nat} (hC : am_C x cc own n mc ms) {pc k z : Nat} {h : am_H} {ls : List (Option Value)} {st : List Value} {a s0 : Int} (j : Nat) (d : decode cc pc = .ok (.lushr, 1)) (hs : s0 = j) (hj : j < 64) (kk : am_W x (pc + 1) k z h ls (vL (a % 18446744073709551616 / 2 ^ j) :: st)) : am_W x (pc) k z h ls (vI s0 :: vL a :: st) := by
  obtain ⟨p, l, e, R, s, m, args, below, meth, c, Q, g, nL⟩ := x
  obtain ⟨hx, hb, hml, hown, hts, hI, hlk, hR⟩ := hC
  intro H locs la hH hS hL
  have h1 := kk H locs la hH hS hL
  refine lv_lushr hx hb d (v := Int64.ofInt (a % 18446744073709551616 / 2 ^ j)) ?_ h1
  apply Int64.toBitVec_inj.mp
  show ((Int64.ofInt a).toUInt64 >>> ((Int32.ofInt s0).toInt64.toUInt64 &&& Int64.toUInt64 63)).toBitVec = _
  rw [UInt64.toBitVec_shiftRight, BitVec.ushiftRight_eq', am_u63 hs hj]
  exact am_bvushr a j

theorem am_iushr {x : am_X} {cc : ByteArray} {own : String} {n mc ms : Nat} (hC : am_C x cc own n mc ms) {pc k z : Nat} {h : am_H} {ls : List (Option Value)} {st : List Value} {a s0 : Int} (j : Nat) (d : decode cc pc = .ok (.iushr, 1)) (ha : 0 ≤ a ∧ a ≤ 2147483647) (hs : s0 = j) (hj : j < 32) (kk : am_W x (pc + 1) k z h ls (vI (a / 2 ^ j) :: st)) : am_W x (pc) k z h ls (vI s0 :: vI a :: st) := by
  obtain ⟨p, l, e, R, s, m, args, below, meth, c, Q, g, nL⟩ := x
  obtain ⟨hx, hb, hml, hown, hts, hI, hlk, hR⟩ := hC
  intro H locs la hH hS hL
  have h1 := kk H locs la hH hS hL
  refine lv_iushr hx hb d (v := Int32.ofInt (a / 2 ^ j)) ?_ h1
  apply Int32.toBitVec_inj.mp
  show ((Int32.ofInt a).toUInt32 >>> ((Int32.ofInt s0).toUInt32 &&& Int32.toUInt32 31)).toBitVec = _
  rw [UInt32.toBitVec_shiftRight, BitVec.ushiftRight_eq', am_u31 hs hj]
  have h9 := am_bvushr (n := 32) a j
  rw [Int.emod_eq_of_lt ha.1 (by omega)] at h9
  exact h9

theorem am_i2l {x : am_X} {cc : ByteArray} {own : String} {n mc ms : Nat} (hC : am_C x cc own n mc ms) {pc k z : Nat} {h : am_H} {ls : List (Option Value)} {st : List Value} {a : Int} (d : decode cc pc = .ok (.i2l, 1)) (ha : -2147483648 ≤ a ∧ a ≤ 2147483647) (kk : am_W x (pc + 1) k z h ls (vL a :: st)) : am_W x (pc) k z h ls (vI a :: st) := by
  obtain ⟨p, l, e, R, s, m, args, below, meth, c, Q, g, nL⟩ := x
  obtain ⟨hx, hb, hml, hown, hts, hI, hlk, hR⟩ := hC
  intro H locs la hH hS hL
  have h1 := kk H locs la hH hS hL
  refine lv_i2l hx hb d (v := Int64.ofInt a) ?_ h1
  apply Int64.toInt_inj.mp
  rw [Int32.toInt_toInt64, am_t32 ha, am_t64 (by omega)]

theorem am_l2i {x : am_X} {cc : ByteArray} {own : String} {n mc ms : Nat} (hC : am_C x cc own n mc ms) {pc k z : Nat} {h : am_H} {ls : List (Option Value)} {st : List Value} {a : Int} (d : decode cc pc = .ok (.l2i, 1)) (kk : am_W x (pc + 1) k z h ls (vI a :: st)) : am_W x (pc) k z h ls (vL a :: st) := by
  obtain ⟨p, l, e, R, s, m, args, below, meth, c, Q, g, nL⟩ := x
  obtain ⟨hx, hb, hml, hown, hts, hI, hlk, hR⟩ := hC
  intro H locs la hH hS hL
  have h1 := kk H locs la hH hS hL
  refine lv_l2i hx hb d (v := Int32.ofInt a) ?_ h1
  exact Int64.toInt32_ofInt

theorem am_dup {x : am_X} {cc : ByteArray} {own : String} {n mc ms : Nat} (hC : am_C x cc own n mc ms) {pc k z : Nat} {h : am_H} {ls : List (Option Value)} {st : List Value} {v : Value} (d : decode cc pc = .ok (.dup, 1)) (hv : v.category = 1) (kk : am_W x (pc + 1) k z h ls (v :: v :: st)) : am_W x (pc) k z h ls (v :: st) := by
  obtain ⟨p, l, e, R, s, m, args, below, meth, c, Q, g, nL⟩ := x
  obtain ⟨hx, hb, hml, hown, hts, hI, hlk, hR⟩ := hC
  intro H locs la hH hS hL
  exact lv_dup hx hb d (by rw [am_cat]; exact hv) (kk H locs la hH hS hL)

theorem am_pop {x : am_X} {cc : ByteArray} {own : String} {n mc ms : Nat} (hC : am_C x cc own n mc ms) {pc k z : Nat} {h : am_H} {ls : List (Option Value)} {st : List Value} {v : Value} (d : decode cc pc = .ok (.pop, 1)) (hv : v.category = 1) (kk : am_W x (pc + 1) k z h ls (st)) : am_W x (pc) k z h ls (v :: st) := by
  obtain ⟨p, l, e, R, s, m, args, below, meth, c, Q, g, nL⟩ := x
  obtain ⟨hx, hb, hml, hown, hts, hI, hlk, hR⟩ := hC
  intro H locs la hH hS hL
  exact lv_pop hx hb d (by rw [am_cat]; exact hv) (kk H locs la hH hS hL)

theorem am_pop2 {x : am_X} {cc : ByteArray} {own : String} {n mc ms : Nat} (hC : am_C x cc own n mc ms) {pc k z : Nat} {h : am_H} {ls : List (Option Value)} {st : List Value} {v : Value} (d : decode cc pc = .ok (.pop2, 1)) (hv : v.category = 2) (kk : am_W x (pc + 1) k z h ls (st)) : am_W x (pc) k z h ls (v :: st) := by
  obtain ⟨p, l, e, R, s, m, args, below, meth, c, Q, g, nL⟩ := x
  obtain ⟨hx, hb, hml, hown, hts, hI, hlk, hR⟩ := hC
  intro H locs la hH hS hL
  exact lv_pop2_2 hx hb d (by rw [am_cat]; exact hv) (kk H locs la hH hS hL)

theorem am_dup2 {x : am_X} {cc : ByteArray} {own : String} {n mc ms : Nat} (hC : am_C x cc own n mc ms) {pc k z : Nat} {h : am_H} {ls : List (Option Value)} {st : List Value} {v u : Value} (d : decode cc pc = .ok (.dup2, 1)) (hv : v.category = 1) (hu : u.category = 1) (kk : am_W x (pc + 1) k z h ls (v :: u :: v :: u :: st)) : am_W x (pc) k z h ls (v :: u :: st) := by
  obtain ⟨p, l, e, R, s, m, args, below, meth, c, Q, g, nL⟩ := x
  obtain ⟨hx, hb, hml, hown, hts, hI, hlk, hR⟩ := hC
  intro H locs la hH hS hL
  exact lv_dup2_11 hx hb d (by rw [am_cat]; exact hv) (by rw [am_cat]; exact hu) (kk H locs la hH hS hL)

theorem am_dup2l {x : am_X} {cc : ByteArray} {own : String} {n mc ms : Nat} (hC : am_C x cc own n mc ms) {pc k z : Nat} {h : am_H} {ls : List (Option Value)} {st : List Value} {v : Value} (d : decode cc pc = .ok (.dup2, 1)) (hv : v.category = 2) (kk : am_W x (pc + 1) k z h ls (v :: v :: st)) : am_W x (pc) k z h ls (v :: st) := by
  obtain ⟨p, l, e, R, s, m, args, below, meth, c, Q, g, nL⟩ := x
  obtain ⟨hx, hb, hml, hown, hts, hI, hlk, hR⟩ := hC
  intro H locs la hH hS hL
  exact lv_dup2_2 hx hb d (by rw [am_cat]; exact hv) (kk H locs la hH hS hL)

theorem am_dup_x1 {x : am_X} {cc : ByteArray} {own : String} {n mc ms : Nat} (hC : am_C x cc own n mc ms) {pc k z : Nat} {h : am_H} {ls : List (Option Value)} {st : List Value} {v u : Value} (d : decode cc pc = .ok (.dup_x1, 1)) (hv : v.category = 1) (hu : u.category = 1) (kk : am_W x (pc + 1) k z h ls (v :: u :: v :: st)) : am_W x (pc) k z h ls (v :: u :: st) := by
  obtain ⟨p, l, e, R, s, m, args, below, meth, c, Q, g, nL⟩ := x
  obtain ⟨hx, hb, hml, hown, hts, hI, hlk, hR⟩ := hC
  intro H locs la hH hS hL
  exact lv_dup_x1 hx hb d (by rw [am_cat]; exact hv) (by rw [am_cat]; exact hu) (kk H locs la hH hS hL)

theorem am_goto {x : am_X} {cc : ByteArray} {own : String} {n mc ms : Nat} (hC : am_C x cc own n mc ms) {pc k z : Nat} {h : am_H} {ls : List (Option Value)} {st : List Value} {off : Int} (tgt : Nat) (d : decode cc pc = .ok (.goto off, 3)) (ht : (pc : Int) + off = (tgt : Int)) (kk : am_W x (tgt) k z h ls (st)) : am_W x (pc) k z h ls (st) := by
  obtain ⟨p, l, e, R, s, m, args, below, meth, c, Q, g, nL⟩ := x
  obtain ⟨hx, hb, hml, hown, hts, hI, hlk, hR⟩ := hC
  intro H locs la hH hS hL
  exact lv_goto hx hb d ht (kk H locs la hH hS hL)

theorem am_icmp_eq {x : am_X} {cc : ByteArray} {own : String} {n mc ms : Nat} (hC : am_C x cc own n mc ms) {pc k z : Nat} {h : am_H} {ls : List (Option Value)} {st : List Value} {a b off : Int} (tgt : Nat) (d : decode cc pc = .ok (.if_icmp .eq off, 3)) (ht : (pc : Int) + off = (tgt : Int)) (ha : -2147483648 ≤ a ∧ a ≤ 2147483647) (hb2 : -2147483648 ≤ b ∧ b ≤ 2147483647) (kt : a = b → am_W x (tgt) k z h ls (st)) (kf : ¬ a = b → am_W x (pc + 3) k z h ls (st)) : am_W x (pc) k z h ls (vI b :: vI a :: st) := by
  obtain ⟨p, l, e, R, s, m, args, below, meth, c, Q, g, nL⟩ := x
  obtain ⟨hx, hb, hml, hown, hts, hI, hlk, hR⟩ := hC
  intro H locs la hH hS hL
  exact lv_icmp_eq hx hb d ht (fun q => kt (by rw [am_eq32 ha hb2] at q; omega) H locs la hH hS hL) (fun q => kf (by rw [am_eq32 ha hb2] at q; omega) H locs la hH hS hL)

theorem am_if_eq {x : am_X} {cc : ByteArray} {own : String} {n mc ms : Nat} (hC : am_C x cc own n mc ms) {pc k z : Nat} {h : am_H} {ls : List (Option Value)} {st : List Value} {a off : Int} (tgt : Nat) (d : decode cc pc = .ok (.ifCond .eq off, 3)) (ht : (pc : Int) + off = (tgt : Int)) (ha : -2147483648 ≤ a ∧ a ≤ 2147483647) (kt : a = 0 → am_W x (tgt) k z h ls (st)) (kf : ¬ a = 0 → am_W x (pc + 3) k z h ls (st)) : am_W x (pc) k z h ls (vI a :: st) := by
  obtain ⟨p, l, e, R, s, m, args, below, meth, c, Q, g, nL⟩ := x
  obtain ⟨hx, hb, hml, hown, hts, hI, hlk, hR⟩ := hC
  intro H locs la hH hS hL
  exact lv_if_eq hx hb d ht (fun q => kt (by rw [am_z32, am_eq32 ha (by omega)] at q; omega) H locs la hH hS hL) (fun q => kf (by rw [am_z32, am_eq32 ha (by omega)] at q; omega) H locs la hH hS hL)

theorem am_icmp_ne {x : am_X} {cc : ByteArray} {own : String} {n mc ms : Nat} (hC : am_C x cc own n mc ms) {pc k z : Nat} {h : am_H} {ls : List (Option Value)} {st : List Value} {a b off : Int} (tgt : Nat) (d : decode cc pc = .ok (.if_icmp .ne off, 3)) (ht : (pc : Int) + off = (tgt : Int)) (ha : -2147483648 ≤ a ∧ a ≤ 2147483647) (hb2 : -2147483648 ≤ b ∧ b ≤ 2147483647) (kt : ¬ a = b → am_W x (tgt) k z h ls (st)) (kf : a = b → am_W x (pc + 3) k z h ls (st)) : am_W x (pc) k z h ls (vI b :: vI a :: st) := by
  obtain ⟨p, l, e, R, s, m, args, below, meth, c, Q, g, nL⟩ := x
  obtain ⟨hx, hb, hml, hown, hts, hI, hlk, hR⟩ := hC
  intro H locs la hH hS hL
  exact lv_icmp_ne hx hb d ht (fun q => kt (by rw [am_eq32 ha hb2] at q; omega) H locs la hH hS hL) (fun q => kf (by rw [am_eq32 ha hb2] at q; omega) H locs la hH hS hL)

theorem am_if_ne {x : am_X} {cc : ByteArray} {own : String} {n mc ms : Nat} (hC : am_C x cc own n mc ms) {pc k z : Nat} {h : am_H} {ls : List (Option Value)} {st : List Value} {a off : Int} (tgt : Nat) (d : decode cc pc = .ok (.ifCond .ne off, 3)) (ht : (pc : Int) + off = (tgt : Int)) (ha : -2147483648 ≤ a ∧ a ≤ 2147483647) (kt : ¬ a = 0 → am_W x (tgt) k z h ls (st)) (kf : a = 0 → am_W x (pc + 3) k z h ls (st)) : am_W x (pc) k z h ls (vI a :: st) := by
  obtain ⟨p, l, e, R, s, m, args, below, meth, c, Q, g, nL⟩ := x
  obtain ⟨hx, hb, hml, hown, hts, hI, hlk, hR⟩ := hC
  intro H locs la hH hS hL
  exact lv_if_ne hx hb d ht (fun q => kt (by rw [am_z32, am_eq32 ha (by omega)] at q; omega) H locs la hH hS hL) (fun q => kf (by rw [am_z32, am_eq32 ha (by omega)] at q; omega) H locs la hH hS hL)

theorem am_icmp_lt {x : am_X} {cc : ByteArray} {own : String} {n mc ms : Nat} (hC : am_C x cc own n mc ms) {pc k z : Nat} {h : am_H} {ls : List (Option Value)} {st : List Value} {a b off : Int} (tgt : Nat) (d : decode cc pc = .ok (.if_icmp .lt off, 3)) (ht : (pc : Int) + off = (tgt : Int)) (ha : -2147483648 ≤ a ∧ a ≤ 2147483647) (hb2 : -2147483648 ≤ b ∧ b ≤ 2147483647) (kt : a < b → am_W x (tgt) k z h ls (st)) (kf : ¬ a < b → am_W x (pc + 3) k z h ls (st)) : am_W x (pc) k z h ls (vI b :: vI a :: st) := by
  obtain ⟨p, l, e, R, s, m, args, below, meth, c, Q, g, nL⟩ := x
  obtain ⟨hx, hb, hml, hown, hts, hI, hlk, hR⟩ := hC
  intro H locs la hH hS hL
  exact lv_icmp_lt hx hb d ht (fun q => kt (by first | (rw [am_lt32 ha hb2] at q; omega) | (rw [am_le32 ha hb2] at q; omega) | (rw [am_lt32 hb2 ha] at q; omega) | (rw [am_le32 hb2 ha] at q; omega)) H locs la hH hS hL) (fun q => kf (by first | (rw [am_lt32 ha hb2] at q; omega) | (rw [am_le32 ha hb2] at q; omega) | (rw [am_lt32 hb2 ha] at q; omega) | (rw [am_le32 hb2 ha] at q; omega)) H locs la hH hS hL)

theorem am_if_lt {x : am_X} {cc : ByteArray} {own : String} {n mc ms : Nat} (hC : am_C x cc own n mc ms) {pc k z : Nat} {h : am_H} {ls : List (Option Value)} {st : List Value} {a off : Int} (tgt : Nat) (d : decode cc pc = .ok (.ifCond .lt off, 3)) (ht : (pc : Int) + off = (tgt : Int)) (ha : -2147483648 ≤ a ∧ a ≤ 2147483647) (kt : a < 0 → am_W x (tgt) k z h ls (st)) (kf : ¬ a < 0 → am_W x (pc + 3) k z h ls (st)) : am_W x (pc) k z h ls (vI a :: st) := by
  obtain ⟨p, l, e, R, s, m, args, below, meth, c, Q, g, nL⟩ := x
  obtain ⟨hx, hb, hml, hown, hts, hI, hlk, hR⟩ := hC
  intro H locs la hH hS hL
  exact lv_if_lt hx hb d ht (fun q => kt (by first | (rw [am_z32, am_lt32 ha (by omega)] at q; omega) | (rw [am_z32, am_le32 ha (by omega)] at q; omega) | (rw [am_z32, am_lt32 (by omega) ha] at q; omega) | (rw [am_z32, am_le32 (by omega) ha] at q; omega)) H locs la hH hS hL) (fun q => kf (by first | (rw [am_z32, am_lt32 ha (by omega)] at q; omega) | (rw [am_z32, am_le32 ha (by omega)] at q; omega) | (rw [am_z32, am_lt32 (by omega) ha] at q; omega) | (rw [am_z32, am_le32 (by omega) ha] at q; omega)) H locs la hH hS hL)

theorem am_icmp_ge {x : am_X} {cc : ByteArray} {own : String} {n mc ms : Nat} (hC : am_C x cc own n mc ms) {pc k z : Nat} {h : am_H} {ls : List (Option Value)} {st : List Value} {a b off : Int} (tgt : Nat) (d : decode cc pc = .ok (.if_icmp .ge off, 3)) (ht : (pc : Int) + off = (tgt : Int)) (ha : -2147483648 ≤ a ∧ a ≤ 2147483647) (hb2 : -2147483648 ≤ b ∧ b ≤ 2147483647) (kt : ¬ a < b → am_W x (tgt) k z h ls (st)) (kf : a < b → am_W x (pc + 3) k z h ls (st)) : am_W x (pc) k z h ls (vI b :: vI a :: st) := by
  obtain ⟨p, l, e, R, s, m, args, below, meth, c, Q, g, nL⟩ := x
  obtain ⟨hx, hb, hml, hown, hts, hI, hlk, hR⟩ := hC
  intro H locs la hH hS hL
  exact lv_icmp_ge hx hb d ht (fun q => kt (by first | (rw [am_lt32 ha hb2] at q; omega) | (rw [am_le32 ha hb2] at q; omega) | (rw [am_lt32 hb2 ha] at q; omega) | (rw [am_le32 hb2 ha] at q; omega)) H locs la hH hS hL) (fun q => kf (by first | (rw [am_lt32 ha hb2] at q; omega) | (rw [am_le32 ha hb2] at q; omega) | (rw [am_lt32 hb2 ha] at q; omega) | (rw [am_le32 hb2 ha] at q; omega)) H locs la hH hS hL)

theorem am_if_ge {x : am_X} {cc : ByteArray} {own : String} {n mc ms : Nat} (hC : am_C x cc own n mc ms) {pc k z : Nat} {h : am_H} {ls : List (Option Value)} {st : List Value} {a off : Int} (tgt : Nat) (d : decode cc pc = .ok (.ifCond .ge off, 3)) (ht : (pc : Int) + off = (tgt : Int)) (ha : -2147483648 ≤ a ∧ a ≤ 2147483647) (kt : ¬ a < 0 → am_W x (tgt) k z h ls (st)) (kf : a < 0 → am_W x (pc + 3) k z h ls (st)) : am_W x (pc) k z h ls (vI a :: st) := by
  obtain ⟨p, l, e, R, s, m, args, below, meth, c, Q, g, nL⟩ := x
  obtain ⟨hx, hb, hml, hown, hts, hI, hlk, hR⟩ := hC
  intro H locs la hH hS hL
  exact lv_if_ge hx hb d ht (fun q => kt (by first | (rw [am_z32, am_lt32 ha (by omega)] at q; omega) | (rw [am_z32, am_le32 ha (by omega)] at q; omega) | (rw [am_z32, am_lt32 (by omega) ha] at q; omega) | (rw [am_z32, am_le32 (by omega) ha] at q; omega)) H locs la hH hS hL) (fun q => kf (by first | (rw [am_z32, am_lt32 ha (by omega)] at q; omega) | (rw [am_z32, am_le32 ha (by omega)] at q; omega) | (rw [am_z32, am_lt32 (by omega) ha] at q; omega) | (rw [am_z32, am_le32 (by omega) ha] at q; omega)) H locs la hH hS hL)

theorem am_icmp_gt {x : am_X} {cc : ByteArray} {own : String} {n mc ms : Nat} (hC : am_C x cc own n mc ms) {pc k z : Nat} {h : am_H} {ls : List (Option Value)} {st : List Value} {a b off : Int} (tgt : Nat) (d : decode cc pc = .ok (.if_icmp .gt off, 3)) (ht : (pc : Int) + off = (tgt : Int)) (ha : -2147483648 ≤ a ∧ a ≤ 2147483647) (hb2 : -2147483648 ≤ b ∧ b ≤ 2147483647) (kt : b < a → am_W x (tgt) k z h ls (st)) (kf : ¬ b < a → am_W x (pc + 3) k z h ls (st)) : am_W x (pc) k z h ls (vI b :: vI a :: st) := by
  obtain ⟨p, l, e, R, s, m, args, below, meth, c, Q, g, nL⟩ := x
  obtain ⟨hx, hb, hml, hown, hts, hI, hlk, hR⟩ := hC
  intro H locs la hH hS hL
  exact lv_icmp_gt hx hb d ht (fun q => kt (by first | (rw [am_lt32 ha hb2] at q; omega) | (rw [am_le32 ha hb2] at q; omega) | (rw [am_lt32 hb2 ha] at q; omega) | (rw [am_le32 hb2 ha] at q; omega)) H locs la hH hS hL) (fun q => kf (by first | (rw [am_lt32 ha hb2] at q; omega) | (rw [am_le32 ha hb2] at q; omega) | (rw [am_lt32 hb2 ha] at q; omega) | (rw [am_le32 hb2 ha] at q; omega)) H locs la hH hS hL)

theorem am_if_gt {x : am_X} {cc : ByteArray} {own : String} {n mc ms : Nat} (hC : am_C x cc own n mc ms) {pc k z : Nat} {h : am_H} {ls : List (Option Value)} {st : List Value} {a off : Int} (tgt : Nat) (d : decode cc pc = .ok (.ifCond .gt off, 3)) (ht : (pc : Int) + off = (tgt : Int)) (ha : -2147483648 ≤ a ∧ a ≤ 2147483647) (kt : 0 < a → am_W x (tgt) k z h ls (st)) (kf : ¬ 0 < a → am_W x (pc + 3) k z h ls (st)) : am_W x (pc) k z h ls (vI a :: st) := by
  obtain ⟨p, l, e, R, s, m, args, below, meth, c, Q, g, nL⟩ := x
  obtain ⟨hx, hb, hml, hown, hts, hI, hlk, hR⟩ := hC
  intro H locs la hH hS hL
  exact lv_if_gt hx hb d ht (fun q => kt (by first | (rw [am_z32, am_lt32 ha (by omega)] at q; omega) | (rw [am_z32, am_le32 ha (by omega)] at q; omega) | (rw [am_z32, am_lt32 (by omega) ha] at q; omega) | (rw [am_z32, am_le32 (by omega) ha] at q; omega)) H locs la hH hS hL) (fun q => kf (by first | (rw [am_z32, am_lt32 ha (by omega)] at q; omega) | (rw [am_z32, am_le32 ha (by omega)] at q; omega) | (rw [am_z32, am_lt32 (by omega) ha] at q; omega) | (rw [am_z32, am_le32 (by omega) ha] at q; omega)) H locs la hH hS hL)

theorem am_icmp_le {x : am_X} {cc : ByteArray} {own : String} {n mc ms : Nat} (hC : am_C x cc own n mc ms) {pc k z : Nat} {h : am_H} {ls : List (Option Value)} {st : List Value} {a b off : Int} (tgt : Nat) (d : decode cc pc = .ok (.if_icmp .le off, 3)) (ht : (pc : Int) + off = (tgt : Int)) (ha : -2147483648 ≤ a ∧ a ≤ 2147483647) (hb2 : -2147483648 ≤ b ∧ b ≤ 2147483647) (kt : ¬ b < a → am_W x (tgt) k z h ls (st)) (kf : b < a → am_W x (pc + 3) k z h ls (st)) : am_W x (pc) k z h ls (vI b :: vI a :: st) := by
  obtain ⟨p, l, e, R, s, m, args, below, meth, c, Q, g, nL⟩ := x
  obtain ⟨hx, hb, hml, hown, hts, hI, hlk, hR⟩ := hC
  intro H locs la hH hS hL
  exact lv_icmp_le hx hb d ht (fun q => kt (by first | (rw [am_lt32 ha hb2] at q; omega) | (rw [am_le32 ha hb2] at q; omega) | (rw [am_lt32 hb2 ha] at q; omega) | (rw [am_le32 hb2 ha] at q; omega)) H locs la hH hS hL) (fun q => kf (by first | (rw [am_lt32 ha hb2] at q; omega) | (rw [am_le32 ha hb2] at q; omega) | (rw [am_lt32 hb2 ha] at q; omega) | (rw [am_le32 hb2 ha] at q; omega)) H locs la hH hS hL)

theorem am_if_le {x : am_X} {cc : ByteArray} {own : String} {n mc ms : Nat} (hC : am_C x cc own n mc ms) {pc k z : Nat} {h : am_H} {ls : List (Option Value)} {st : List Value} {a off : Int} (tgt : Nat) (d : decode cc pc = .ok (.ifCond .le off, 3)) (ht : (pc : Int) + off = (tgt : Int)) (ha : -2147483648 ≤ a ∧ a ≤ 2147483647) (kt : ¬ 0 < a → am_W x (tgt) k z h ls (st)) (kf : 0 < a → am_W x (pc + 3) k z h ls (st)) : am_W x (pc) k z h ls (vI a :: st) := by
  obtain ⟨p, l, e, R, s, m, args, below, meth, c, Q, g, nL⟩ := x
  obtain ⟨hx, hb, hml, hown, hts, hI, hlk, hR⟩ := hC
  intro H locs la hH hS hL
  exact lv_if_le hx hb d ht (fun q => kt (by first | (rw [am_z32, am_lt32 ha (by omega)] at q; omega) | (rw [am_z32, am_le32 ha (by omega)] at q; omega) | (rw [am_z32, am_lt32 (by omega) ha] at q; omega) | (rw [am_z32, am_le32 (by omega) ha] at q; omega)) H locs la hH hS hL) (fun q => kf (by first | (rw [am_z32, am_lt32 ha (by omega)] at q; omega) | (rw [am_z32, am_le32 ha (by omega)] at q; omega) | (rw [am_z32, am_lt32 (by omega) ha] at q; omega) | (rw [am_z32, am_le32 (by omega) ha] at q; omega)) H locs la hH hS hL)

/-- a long compared, its answer used at once -/
def am_cmp (a b : Int) : Int := if b < a then 1 else if a = b then 0 else -1
theorem am_lgcmp {a b : Int} (ha : -9223372036854775808 ≤ a ∧ a ≤ 9223372036854775807) (hb : -9223372036854775808 ≤ b ∧ b ≤ 9223372036854775807) : lg_cmp (Int64.ofInt a) (Int64.ofInt b) = Int32.ofInt (am_cmp a b) := by
  unfold lg_cmp am_cmp
  by_cases h1 : b < a
  · simp only [(am_lt64 hb ha).mpr h1, h1, if_true]
    try rfl
  · have h2 : ¬ Int64.ofInt b < Int64.ofInt a := fun q => h1 ((am_lt64 hb ha).mp q)
    by_cases h3 : a = b
    · subst h3
      simp [h1, h2]
    · have h4 : ¬ Int64.ofInt a = Int64.ofInt b := fun q => h3 ((am_eq64 ha hb).mp q)
      simp [h1, h2, h3, h4]
theorem am_cmpr (a b : Int) : -1 ≤ am_cmp a b ∧ am_cmp a b ≤ 1 := by unfold am_cmp; split <;> (try split) <;> omega

theorem am_lcmp {x : am_X} {cc : ByteArray} {own : String} {n mc ms : Nat} (hC : am_C x cc own n mc ms) {pc k z : Nat} {h : am_H} {ls : List (Option Value)} {st : List Value} {a b : Int} (d : decode cc pc = .ok (.lcmp, 1)) (ha : -9223372036854775808 ≤ a ∧ a ≤ 9223372036854775807) (hb2 : -9223372036854775808 ≤ b ∧ b ≤ 9223372036854775807) (kk : am_W x (pc + 1) k z h ls (vI (am_cmp a b) :: st)) : am_W x (pc) k z h ls (vL b :: vL a :: st) := by
  obtain ⟨p, l, e, R, s, m, args, below, meth, c, Q, g, nL⟩ := x
  obtain ⟨hx, hb, hml, hown, hts, hI, hlk, hR⟩ := hC
  intro H locs la hH hS hL
  have h1 := kk H locs la hH hS hL
  refine W.lcmp hx hb d ?_
  rw [am_lgcmp ha hb2]
  exact h1

theorem am_lif_eq {x : am_X} {cc : ByteArray} {own : String} {n mc ms : Nat} (hC : am_C x cc own n mc ms) {pc k z : Nat} {h : am_H} {ls : List (Option Value)} {st : List Value} {a b off : Int} (tgt : Nat) (d : decode cc pc = .ok (.lcmp, 1)) (d2 : decode cc (pc + 1) = .ok (.ifCond .eq off, 3)) (ht : (pc : Int) + 1 + off = (tgt : Int)) (ha : -9223372036854775808 ≤ a ∧ a ≤ 9223372036854775807) (hb2 : -9223372036854775808 ≤ b ∧ b ≤ 9223372036854775807) (kt : a = b → am_W x (tgt) k z h ls (st)) (kf : ¬ a = b → am_W x (pc + 4) k z h ls (st)) : am_W x (pc) k z h ls (vL b :: vL a :: st) := by
  have hr := am_cmpr a b
  refine am_lcmp hC d ha hb2 (am_if_eq hC tgt d2 (by omega) (by omega) (fun q => kt ?_) (fun q => kf ?_)) <;> (unfold am_cmp at q; revert q; split <;> (try split) <;> omega)

theorem am_lif_ne {x : am_X} {cc : ByteArray} {own : String} {n mc ms : Nat} (hC : am_C x cc own n mc ms) {pc k z : Nat} {h : am_H} {ls : List (Option Value)} {st : List Value} {a b off : Int} (tgt : Nat) (d : decode cc pc = .ok (.lcmp, 1)) (d2 : decode cc (pc + 1) = .ok (.ifCond .ne off, 3)) (ht : (pc : Int) + 1 + off = (tgt : Int)) (ha : -9223372036854775808 ≤ a ∧ a ≤ 9223372036854775807) (hb2 : -9223372036854775808 ≤ b ∧ b ≤ 9223372036854775807) (kt : ¬ a = b → am_W x (tgt) k z h ls (st)) (kf : a = b → am_W x (pc + 4) k z h ls (st)) : am_W x (pc) k z h ls (vL b :: vL a :: st) := by
  have hr := am_cmpr a b
  refine am_lcmp hC d ha hb2 (am_if_ne hC tgt d2 (by omega) (by omega) (fun q => kt ?_) (fun q => kf ?_)) <;> (unfold am_cmp at q; revert q; split <;> (try split) <;> omega)

theorem am_lif_lt {x : am_X} {cc : ByteArray} {own : String} {n mc ms : Nat} (hC : am_C x cc own n mc ms) {pc k z : Nat} {h : am_H} {ls : List (Option Value)} {st : List Value} {a b off : Int} (tgt : Nat) (d : decode cc pc = .ok (.lcmp, 1)) (d2 : decode cc (pc + 1) = .ok (.ifCond .lt off, 3)) (ht : (pc : Int) + 1 + off = (tgt : Int)) (ha : -9223372036854775808 ≤ a ∧ a ≤ 9223372036854775807) (hb2 : -9223372036854775808 ≤ b ∧ b ≤ 9223372036854775807) (kt : a < b → am_W x (tgt) k z h ls (st)) (kf : ¬ a < b → am_W x (pc + 4) k z h ls (st)) : am_W x (pc) k z h ls (vL b :: vL a :: st) := by
  have hr := am_cmpr a b
  refine am_lcmp hC d ha hb2 (am_if_lt hC tgt d2 (by omega) (by omega) (fun q => kt ?_) (fun q => kf ?_)) <;> (unfold am_cmp at q; revert q; split <;> (try split) <;> omega)

theorem am_lif_ge {x : am_X} {cc : ByteArray} {own : String} {n mc ms : Nat} (hC : am_C x cc own n mc ms) {pc k z : Nat} {h : am_H} {ls : List (Option Value)} {st : List Value} {a b off : Int} (tgt : Nat) (d : decode cc pc = .ok (.lcmp, 1)) (d2 : decode cc (pc + 1) = .ok (.ifCond .ge off, 3)) (ht : (pc : Int) + 1 + off = (tgt : Int)) (ha : -9223372036854775808 ≤ a ∧ a ≤ 9223372036854775807) (hb2 : -9223372036854775808 ≤ b ∧ b ≤ 9223372036854775807) (kt : ¬ a < b → am_W x (tgt) k z h ls (st)) (kf : a < b → am_W x (pc + 4) k z h ls (st)) : am_W x (pc) k z h ls (vL b :: vL a :: st) := by
  have hr := am_cmpr a b
  refine am_lcmp hC d ha hb2 (am_if_ge hC tgt d2 (by omega) (by omega) (fun q => kt ?_) (fun q => kf ?_)) <;> (unfold am_cmp at q; revert q; split <;> (try split) <;> omega)

theorem am_lif_gt {x : am_X} {cc : ByteArray} {own : String} {n mc ms : Nat} (hC : am_C x cc own n mc ms) {pc k z : Nat} {h : am_H} {ls : List (Option Value)} {st : List Value} {a b off : Int} (tgt : Nat) (d : decode cc pc = .ok (.lcmp, 1)) (d2 : decode cc (pc + 1) = .ok (.ifCond .gt off, 3)) (ht : (pc : Int) + 1 + off = (tgt : Int)) (ha : -9223372036854775808 ≤ a ∧ a ≤ 9223372036854775807) (hb2 : -9223372036854775808 ≤ b ∧ b ≤ 9223372036854775807) (kt : b < a → am_W x (tgt) k z h ls (st)) (kf : ¬ b < a → am_W x (pc + 4) k z h ls (st)) : am_W x (pc) k z h ls (vL b :: vL a :: st) := by
  have hr := am_cmpr a b
  refine am_lcmp hC d ha hb2 (am_if_gt hC tgt d2 (by omega) (by omega) (fun q => kt ?_) (fun q => kf ?_)) <;> (unfold am_cmp at q; revert q; split <;> (try split) <;> omega)

theorem am_lif_le {x : am_X} {cc : ByteArray} {own : String} {n mc ms : Nat} (hC : am_C x cc own n mc ms) {pc k z : Nat} {h : am_H} {ls : List (Option Value)} {st : List Value} {a b off : Int} (tgt : Nat) (d : decode cc pc = .ok (.lcmp, 1)) (d2 : decode cc (pc + 1) = .ok (.ifCond .le off, 3)) (ht : (pc : Int) + 1 + off = (tgt : Int)) (ha : -9223372036854775808 ≤ a ∧ a ≤ 9223372036854775807) (hb2 : -9223372036854775808 ≤ b ∧ b ≤ 9223372036854775807) (kt : ¬ b < a → am_W x (tgt) k z h ls (st)) (kf : b < a → am_W x (pc + 4) k z h ls (st)) : am_W x (pc) k z h ls (vL b :: vL a :: st) := by
  have hr := am_cmpr a b
  refine am_lcmp hC d ha hb2 (am_if_le hC tgt d2 (by omega) (by omega) (fun q => kt ?_) (fun q => kf ?_)) <;> (unfold am_cmp at q; revert q; split <;> (try split) <;> omega)


/-! the law's own machine: as the abstract one, with the script's cell in local 0 -/
def lx_W (x : am_X) (sb pc k z : Nat) (h : am_H) (ls : List (Option Value)) (st : List Value) : Prop := match x with
  | (p, l, e, R, s, m, args, below, meth, c, Q, g, nL) => ∀ (H : Heap) (locs : List Loc) (la : Array Slot), am_R g h H → va_S (am_A g) s.heap H locs → am_L g.1 nL ls la → la[0]? = some (.val (.ref sb)) → W p l e R s m args below meth c H locs k z Q (F0 m pc la (st.map (am_c g.1)))
theorem lx_st1 {b nL i sb : Nat} {ls : List (Option Value)} {la la' : Array Slot} {v : Value} (hL : am_L b nL ls la) (hz : la[0]? = some (.val (.ref sb))) (hi : i < nL) (h0 : 0 < i) (hc : v.category = 1) (e1 : storeLocals la i v = some la') : la'[0]? = some (.val (.ref sb)) := by
  obtain ⟨la2, e2, h2⟩ := lv_store1 (v := v) (l := [(0, Value.ref sb)]) ⟨hL.1.1, hL.1.2.1, fun q hq => by rw [List.mem_singleton.mp hq]; exact hz⟩ hi hc
  rw [e1] at e2
  cases e2
  exact h2.2.2 (0, Value.ref sb) (List.mem_cons_of_mem _ (List.mem_filter.mpr ⟨List.mem_singleton.mpr rfl, by simp [Value.category]; omega⟩))
theorem lx_st2 {b nL i sb : Nat} {ls : List (Option Value)} {la la' : Array Slot} {v : Value} (hL : am_L b nL ls la) (hz : la[0]? = some (.val (.ref sb))) (hi : i + 1 < nL) (h0 : 0 < i) (hc : v.category = 2) (e1 : storeLocals la i v = some la') : la'[0]? = some (.val (.ref sb)) := by
  obtain ⟨la2, e2, h2⟩ := lv_store2 (v := v) (l := [(0, Value.ref sb)]) ⟨hL.1.1, hL.1.2.1, fun q hq => by rw [List.mem_singleton.mp hq]; exact hz⟩ hi hc
  rw [e1] at e2
  cases e2
  exact h2.2.2 (0, Value.ref sb) (List.mem_cons_of_mem _ (List.mem_filter.mpr ⟨List.mem_singleton.mpr rfl, by simp [Value.category]; omega⟩))

theorem lx_iconst {x : am_X} {sb : Nat} {cc : ByteArray} {own : String} {n mc ms : Nat} (hC : am_C x cc own n mc ms) {pc k z : Nat} {h : am_H} {ls : List (Option Value)} {st : List Value} {v : Int} (d : decode cc pc = .ok (.iconst v, 1)) (kk : lx_W x sb (pc + 1) k z h ls (vI v :: st)) : lx_W x sb (pc) k z h ls (st) := by
  obtain ⟨p, l, e, R, s, m, args, below, meth, c, Q, g, nL⟩ := x
  obtain ⟨hx, hb, hml, hown, hts, hI, hlk, hR⟩ := hC
  intro H locs la hH hS hL hz0
  exact lv_iconst hx hb d rfl (kk H locs la hH hS hL hz0)
theorem lx_bipush {x : am_X} {sb : Nat} {cc : ByteArray} {own : String} {n mc ms : Nat} (hC : am_C x cc own n mc ms) {pc k z : Nat} {h : am_H} {ls : List (Option Value)} {st : List Value} {v : Int} (d : decode cc pc = .ok (.bipush v, 2)) (hv : (Int8.ofInt v).toInt32 = Int32.ofInt v) (kk : lx_W x sb (pc + 2) k z h ls (vI v :: st)) : lx_W x sb (pc) k z h ls (st) := by
  obtain ⟨p, l, e, R, s, m, args, below, meth, c, Q, g, nL⟩ := x
  obtain ⟨hx, hb, hml, hown, hts, hI, hlk, hR⟩ := hC
  intro H locs la hH hS hL hz0
  exact lv_bipush hx hb d hv (kk H locs la hH hS hL hz0)
theorem lx_ldc2 {x : am_X} {sb : Nat} {cc : ByteArray} {own : String} {n mc ms : Nat} (hC : am_C x cc own n mc ms) {pc k z : Nat} {h : am_H} {ls : List (Option Value)} {st : List Value} {idx : Nat} {u : Int64} (v : Int) (d : decode cc pc = .ok (.ldc2_w idx, 3)) (hw : Cond.constantLong own idx u ∈ am_ws) (hv : u = Int64.ofInt v) (kk : lx_W x sb (pc + 3) k z h ls (vL v :: st)) : lx_W x sb (pc) k z h ls (st) := by
  obtain ⟨p, l, e, R, s, m, args, below, meth, c, Q, g, nL⟩ := x
  obtain ⟨hx, hb, hml, hown, hts, hI, hlk, hR⟩ := hC
  intro H locs la hH hS hL hz0
  subst hv
  exact lv_ldc2 hx hb hown (hts _ hw) d (kk H locs la hH hS hL hz0)
theorem lx_iload4 {x : am_X} {sb : Nat} {cc : ByteArray} {own : String} {n mc ms : Nat} (hC : am_C x cc own n mc ms) {pc k z : Nat} {h : am_H} {st : List Value} {y0 y1 y2 y3 : Option Value} {tl : List (Option Value)} {v : Int} (d : decode cc pc = .ok (.iload 4, 2)) (kk : lx_W x sb (pc + 2) k z h (y0 :: y1 :: y2 :: y3 :: some (vI v) :: tl) (vI v :: st)) : lx_W x sb (pc) k z h (y0 :: y1 :: y2 :: y3 :: some (vI v) :: tl) (st) := by
  obtain ⟨p, l, e, R, s, m, args, below, meth, c, Q, g, nL⟩ := x
  obtain ⟨hx, hb, hml, hown, hts, hI, hlk, hR⟩ := hC
  intro H locs la hH hS hL hz0
  exact lv_iload hx hb d (hL.2.2 4 _ rfl) (kk H locs la hH hS hL hz0)
theorem lx_iload5 {x : am_X} {sb : Nat} {cc : ByteArray} {own : String} {n mc ms : Nat} (hC : am_C x cc own n mc ms) {pc k z : Nat} {h : am_H} {st : List Value} {y0 y1 y2 y3 y4 : Option Value} {tl : List (Option Value)} {v : Int} (d : decode cc pc = .ok (.iload 5, 2)) (kk : lx_W x sb (pc + 2) k z h (y0 :: y1 :: y2 :: y3 :: y4 :: some (vI v) :: tl) (vI v :: st)) : lx_W x sb (pc) k z h (y0 :: y1 :: y2 :: y3 :: y4 :: some (vI v) :: tl) (st) := by
  obtain ⟨p, l, e, R, s, m, args, below, meth, c, Q, g, nL⟩ := x
  obtain ⟨hx, hb, hml, hown, hts, hI, hlk, hR⟩ := hC
  intro H locs la hH hS hL hz0
  exact lv_iload hx hb d (hL.2.2 5 _ rfl) (kk H locs la hH hS hL hz0)
theorem lx_iload6 {x : am_X} {sb : Nat} {cc : ByteArray} {own : String} {n mc ms : Nat} (hC : am_C x cc own n mc ms) {pc k z : Nat} {h : am_H} {st : List Value} {y0 y1 y2 y3 y4 y5 : Option Value} {tl : List (Option Value)} {v : Int} (d : decode cc pc = .ok (.iload 6, 2)) (kk : lx_W x sb (pc + 2) k z h (y0 :: y1 :: y2 :: y3 :: y4 :: y5 :: some (vI v) :: tl) (vI v :: st)) : lx_W x sb (pc) k z h (y0 :: y1 :: y2 :: y3 :: y4 :: y5 :: some (vI v) :: tl) (st) := by
  obtain ⟨p, l, e, R, s, m, args, below, meth, c, Q, g, nL⟩ := x
  obtain ⟨hx, hb, hml, hown, hts, hI, hlk, hR⟩ := hC
  intro H locs la hH hS hL hz0
  exact lv_iload hx hb d (hL.2.2 6 _ rfl) (kk H locs la hH hS hL hz0)
theorem lx_lload6 {x : am_X} {sb : Nat} {cc : ByteArray} {own : String} {n mc ms : Nat} (hC : am_C x cc own n mc ms) {pc k z : Nat} {h : am_H} {st : List Value} {y0 y1 y2 y3 y4 y5 : Option Value} {tl : List (Option Value)} {v : Int} (d : decode cc pc = .ok (.lload 6, 2)) (kk : lx_W x sb (pc + 2) k z h (y0 :: y1 :: y2 :: y3 :: y4 :: y5 :: some (vL v) :: tl) (vL v :: st)) : lx_W x sb (pc) k z h (y0 :: y1 :: y2 :: y3 :: y4 :: y5 :: some (vL v) :: tl) (st) := by
  obtain ⟨p, l, e, R, s, m, args, below, meth, c, Q, g, nL⟩ := x
  obtain ⟨hx, hb, hml, hown, hts, hI, hlk, hR⟩ := hC
  intro H locs la hH hS hL hz0
  exact lv_lload hx hb d (hL.2.2 6 _ rfl) (kk H locs la hH hS hL hz0)
theorem lx_aload1 {x : am_X} {sb : Nat} {cc : ByteArray} {own : String} {n mc ms : Nat} (hC : am_C x cc own n mc ms) {pc k z : Nat} {h : am_H} {st : List Value} {y0 : Option Value} {tl : List (Option Value)} {v : Nat} (d : decode cc pc = .ok (.aload_n 1, 1)) (kk : lx_W x sb (pc + 1) k z h (y0 :: some (Value.ref v) :: tl) (Value.ref v :: st)) : lx_W x sb (pc) k z h (y0 :: some (Value.ref v) :: tl) (st) := by
  obtain ⟨p, l, e, R, s, m, args, below, meth, c, Q, g, nL⟩ := x
  obtain ⟨hx, hb, hml, hown, hts, hI, hlk, hR⟩ := hC
  intro H locs la hH hS hL hz0
  exact lv_aload_n hx hb d rfl (hL.2.2 1 _ rfl) (kk H locs la hH hS hL hz0)
theorem lx_aload2 {x : am_X} {sb : Nat} {cc : ByteArray} {own : String} {n mc ms : Nat} (hC : am_C x cc own n mc ms) {pc k z : Nat} {h : am_H} {st : List Value} {y0 y1 : Option Value} {tl : List (Option Value)} {v : Nat} (d : decode cc pc = .ok (.aload_n 2, 1)) (kk : lx_W x sb (pc + 1) k z h (y0 :: y1 :: some (Value.ref v) :: tl) (Value.ref v :: st)) : lx_W x sb (pc) k z h (y0 :: y1 :: some (Value.ref v) :: tl) (st) := by
  obtain ⟨p, l, e, R, s, m, args, below, meth, c, Q, g, nL⟩ := x
  obtain ⟨hx, hb, hml, hown, hts, hI, hlk, hR⟩ := hC
  intro H locs la hH hS hL hz0
  exact lv_aload_n hx hb d rfl (hL.2.2 2 _ rfl) (kk H locs la hH hS hL hz0)
theorem lx_aload3 {x : am_X} {sb : Nat} {cc : ByteArray} {own : String} {n mc ms : Nat} (hC : am_C x cc own n mc ms) {pc k z : Nat} {h : am_H} {st : List Value} {y0 y1 y2 : Option Value} {tl : List (Option Value)} {v : Nat} (d : decode cc pc = .ok (.aload_n 3, 1)) (kk : lx_W x sb (pc + 1) k z h (y0 :: y1 :: y2 :: some (Value.ref v) :: tl) (Value.ref v :: st)) : lx_W x sb (pc) k z h (y0 :: y1 :: y2 :: some (Value.ref v) :: tl) (st) := by
  obtain ⟨p, l, e, R, s, m, args, below, meth, c, Q, g, nL⟩ := x
  obtain ⟨hx, hb, hml, hown, hts, hI, hlk, hR⟩ := hC
  intro H locs la hH hS hL hz0
  exact lv_aload_n hx hb d rfl (hL.2.2 3 _ rfl) (kk H locs la hH hS hL hz0)
theorem lx_istore4 {x : am_X} {sb : Nat} {cc : ByteArray} {own : String} {n mc ms : Nat} (hC : am_C x cc own n mc ms) {pc k z : Nat} {h : am_H} {st : List Value} {y0 y1 y2 y3 o0 : Option Value} {tl : List (Option Value)} {v : Int} (d : decode cc pc = .ok (.istore 4, 2)) (hp : am_n2 y3 = true) (kk : lx_W x sb (pc + 2) k z h (y0 :: y1 :: y2 :: y3 :: some (vI v) :: tl) (st)) : lx_W x sb (pc) k z h (y0 :: y1 :: y2 :: y3 :: o0 :: tl) (vI v :: st) := by
  obtain ⟨p, l, e, R, s, m, args, below, meth, c, Q, g, nL⟩ := x
  obtain ⟨hx, hb, hml, hown, hts, hI, hlk, hR⟩ := hC
  intro H locs la hH hS hL hz0
  have hlt : 4 < nL := by have := hL.2.1; simp at this; omega
  obtain ⟨la', e1, hL'⟩ := am_st1 (i := 4) (vI v) hL hlt rfl (am_hp (i := 3) rfl hp)
  have hz0' := lx_st1 (i := 4) hL hz0 hlt (by decide) rfl e1
  intro T hT X
  obtain ⟨t, a1, b1⟩ := kk H locs la' hH hS hL' hz0' T hT X
  refine ⟨t, ?_, b1⟩
  have e2 : storeLocals la 4 (.int (Int32.ofInt v)) = some la' := e1
  have e3 : (vI v :: st).map (am_c g.1) = .int (Int32.ofInt v) :: st.map (am_c g.1) := rfl
  rw [e3]
  jvm_step X.here [X.here.top, ↓top_set X.here.top, hx, hb, d, e2, Value.isRef]
  exact a1
theorem lx_istore5 {x : am_X} {sb : Nat} {cc : ByteArray} {own : String} {n mc ms : Nat} (hC : am_C x cc own n mc ms) {pc k z : Nat} {h : am_H} {st : List Value} {y0 y1 y2 y3 y4 o0 : Option Value} {tl : List (Option Value)} {v : Int} (d : decode cc pc = .ok (.istore 5, 2)) (hp : am_n2 y4 = true) (kk : lx_W x sb (pc + 2) k z h (y0 :: y1 :: y2 :: y3 :: y4 :: some (vI v) :: tl) (st)) : lx_W x sb (pc) k z h (y0 :: y1 :: y2 :: y3 :: y4 :: o0 :: tl) (vI v :: st) := by
  obtain ⟨p, l, e, R, s, m, args, below, meth, c, Q, g, nL⟩ := x
  obtain ⟨hx, hb, hml, hown, hts, hI, hlk, hR⟩ := hC
  intro H locs la hH hS hL hz0
  have hlt : 5 < nL := by have := hL.2.1; simp at this; omega
  obtain ⟨la', e1, hL'⟩ := am_st1 (i := 5) (vI v) hL hlt rfl (am_hp (i := 4) rfl hp)
  have hz0' := lx_st1 (i := 5) hL hz0 hlt (by decide) rfl e1
  intro T hT X
  obtain ⟨t, a1, b1⟩ := kk H locs la' hH hS hL' hz0' T hT X
  refine ⟨t, ?_, b1⟩
  have e2 : storeLocals la 5 (.int (Int32.ofInt v)) = some la' := e1
  have e3 : (vI v :: st).map (am_c g.1) = .int (Int32.ofInt v) :: st.map (am_c g.1) := rfl
  rw [e3]
  jvm_step X.here [X.here.top, ↓top_set X.here.top, hx, hb, d, e2, Value.isRef]
  exact a1
theorem lx_istore6 {x : am_X} {sb : Nat} {cc : ByteArray} {own : String} {n mc ms : Nat} (hC : am_C x cc own n mc ms) {pc k z : Nat} {h : am_H} {st : List Value} {y0 y1 y2 y3 y4 y5 o0 : Option Value} {tl : List (Option Value)} {v : Int} (d : decode cc pc = .ok (.istore 6, 2)) (hp : am_n2 y5 = true) (kk : lx_W x sb (pc + 2) k z h (y0 :: y1 :: y2 :: y3 :: y4 :: y5 :: some (vI v) :: tl) (st)) : lx_W x sb (pc) k z h (y0 :: y1 :: y2 :: y3 :: y4 :: y5 :: o0 :: tl) (vI v :: st) := by
  obtain ⟨p, l, e, R, s, m, args, below, meth, c, Q, g, nL⟩ := x
  obtain ⟨hx, hb, hml, hown, hts, hI, hlk, hR⟩ := hC
  intro H locs la hH hS hL hz0
  have hlt : 6 < nL := by have := hL.2.1; simp at this; omega
  obtain ⟨la', e1, hL'⟩ := am_st1 (i := 6) (vI v) hL hlt rfl (am_hp (i := 5) rfl hp)
  have hz0' := lx_st1 (i := 6) hL hz0 hlt (by decide) rfl e1
  intro T hT X
  obtain ⟨t, a1, b1⟩ := kk H locs la' hH hS hL' hz0' T hT X
  refine ⟨t, ?_, b1⟩
  have e2 : storeLocals la 6 (.int (Int32.ofInt v)) = some la' := e1
  have e3 : (vI v :: st).map (am_c g.1) = .int (Int32.ofInt v) :: st.map (am_c g.1) := rfl
  rw [e3]
  jvm_step X.here [X.here.top, ↓top_set X.here.top, hx, hb, d, e2, Value.isRef]
  exact a1
theorem lx_lstore6 {x : am_X} {sb : Nat} {cc : ByteArray} {own : String} {n mc ms : Nat} (hC : am_C x cc own n mc ms) {pc k z : Nat} {h : am_H} {st : List Value} {y0 y1 y2 y3 y4 y5 o0 o1 : Option Value} {tl : List (Option Value)} {v : Int} (d : decode cc pc = .ok (.lstore 6, 2)) (hp : am_n2 y5 = true) (kk : lx_W x sb (pc + 2) k z h (y0 :: y1 :: y2 :: y3 :: y4 :: y5 :: some (vL v) :: none :: tl) (st)) : lx_W x sb (pc) k z h (y0 :: y1 :: y2 :: y3 :: y4 :: y5 :: o0 :: o1 :: tl) (vL v :: st) := by
  obtain ⟨p, l, e, R, s, m, args, below, meth, c, Q, g, nL⟩ := x
  obtain ⟨hx, hb, hml, hown, hts, hI, hlk, hR⟩ := hC
  intro H locs la hH hS hL hz0
  have hlt : 7 < nL := by have := hL.2.1; simp at this; omega
  obtain ⟨la', e1, hL'⟩ := am_st2 (i := 6) (vL v) hL hlt rfl (am_hp (i := 5) rfl hp)
  have hz0' := lx_st2 (i := 6) hL hz0 hlt (by decide) rfl e1
  intro T hT X
  obtain ⟨t, a1, b1⟩ := kk H locs la' hH hS hL' hz0' T hT X
  refine ⟨t, ?_, b1⟩
  have e2 : storeLocals la 6 (.long (Int64.ofInt v)) = some la' := e1
  have e3 : (vL v :: st).map (am_c g.1) = .long (Int64.ofInt v) :: st.map (am_c g.1) := rfl
  rw [e3]
  jvm_step X.here [X.here.top, ↓top_set X.here.top, hx, hb, d, e2, Value.isRef]
  exact a1
theorem lx_astore1 {x : am_X} {sb : Nat} {cc : ByteArray} {own : String} {n mc ms : Nat} (hC : am_C x cc own n mc ms) {pc k z : Nat} {h : am_H} {st : List Value} {y0 o0 : Option Value} {tl : List (Option Value)} {v : Nat} (d : decode cc pc = .ok (.astore_n 1, 1)) (hp : am_n2 y0 = true) (kk : lx_W x sb (pc + 1) k z h (y0 :: some (Value.ref v) :: tl) (st)) : lx_W x sb (pc) k z h (y0 :: o0 :: tl) (Value.ref v :: st) := by
  obtain ⟨p, l, e, R, s, m, args, below, meth, c, Q, g, nL⟩ := x
  obtain ⟨hx, hb, hml, hown, hts, hI, hlk, hR⟩ := hC
  intro H locs la hH hS hL hz0
  have hlt : 1 < nL := by have := hL.2.1; simp at this; omega
  obtain ⟨la', e1, hL'⟩ := am_st1 (i := 1) (Value.ref v) hL hlt rfl (am_hp (i := 0) rfl hp)
  have hz0' := lx_st1 (i := 1) hL hz0 hlt (by decide) rfl e1
  intro T hT X
  obtain ⟨t, a1, b1⟩ := kk H locs la' hH hS hL' hz0' T hT X
  refine ⟨t, ?_, b1⟩
  have e2 : storeLocals la 1 (.ref (g.1 + v)) = some la' := e1
  have e3 : (Value.ref v :: st).map (am_c g.1) = .ref (g.1 + v) :: st.map (am_c g.1) := rfl
  rw [e3]
  jvm_step X.here [X.here.top, ↓top_set X.here.top, hx, hb, d, e2, Value.isRef]
  exact a1
theorem lx_astore2 {x : am_X} {sb : Nat} {cc : ByteArray} {own : String} {n mc ms : Nat} (hC : am_C x cc own n mc ms) {pc k z : Nat} {h : am_H} {st : List Value} {y0 y1 o0 : Option Value} {tl : List (Option Value)} {v : Nat} (d : decode cc pc = .ok (.astore_n 2, 1)) (hp : am_n2 y1 = true) (kk : lx_W x sb (pc + 1) k z h (y0 :: y1 :: some (Value.ref v) :: tl) (st)) : lx_W x sb (pc) k z h (y0 :: y1 :: o0 :: tl) (Value.ref v :: st) := by
  obtain ⟨p, l, e, R, s, m, args, below, meth, c, Q, g, nL⟩ := x
  obtain ⟨hx, hb, hml, hown, hts, hI, hlk, hR⟩ := hC
  intro H locs la hH hS hL hz0
  have hlt : 2 < nL := by have := hL.2.1; simp at this; omega
  obtain ⟨la', e1, hL'⟩ := am_st1 (i := 2) (Value.ref v) hL hlt rfl (am_hp (i := 1) rfl hp)
  have hz0' := lx_st1 (i := 2) hL hz0 hlt (by decide) rfl e1
  intro T hT X
  obtain ⟨t, a1, b1⟩ := kk H locs la' hH hS hL' hz0' T hT X
  refine ⟨t, ?_, b1⟩
  have e2 : storeLocals la 2 (.ref (g.1 + v)) = some la' := e1
  have e3 : (Value.ref v :: st).map (am_c g.1) = .ref (g.1 + v) :: st.map (am_c g.1) := rfl
  rw [e3]
  jvm_step X.here [X.here.top, ↓top_set X.here.top, hx, hb, d, e2, Value.isRef]
  exact a1
theorem lx_astore3 {x : am_X} {sb : Nat} {cc : ByteArray} {own : String} {n mc ms : Nat} (hC : am_C x cc own n mc ms) {pc k z : Nat} {h : am_H} {st : List Value} {y0 y1 y2 o0 : Option Value} {tl : List (Option Value)} {v : Nat} (d : decode cc pc = .ok (.astore_n 3, 1)) (hp : am_n2 y2 = true) (kk : lx_W x sb (pc + 1) k z h (y0 :: y1 :: y2 :: some (Value.ref v) :: tl) (st)) : lx_W x sb (pc) k z h (y0 :: y1 :: y2 :: o0 :: tl) (Value.ref v :: st) := by
  obtain ⟨p, l, e, R, s, m, args, below, meth, c, Q, g, nL⟩ := x
  obtain ⟨hx, hb, hml, hown, hts, hI, hlk, hR⟩ := hC
  intro H locs la hH hS hL hz0
  have hlt : 3 < nL := by have := hL.2.1; simp at this; omega
  obtain ⟨la', e1, hL'⟩ := am_st1 (i := 3) (Value.ref v) hL hlt rfl (am_hp (i := 2) rfl hp)
  have hz0' := lx_st1 (i := 3) hL hz0 hlt (by decide) rfl e1
  intro T hT X
  obtain ⟨t, a1, b1⟩ := kk H locs la' hH hS hL' hz0' T hT X
  refine ⟨t, ?_, b1⟩
  have e2 : storeLocals la 3 (.ref (g.1 + v)) = some la' := e1
  have e3 : (Value.ref v :: st).map (am_c g.1) = .ref (g.1 + v) :: st.map (am_c g.1) := rfl
  rw [e3]
  jvm_step X.here [X.here.top, ↓top_set X.here.top, hx, hb, d, e2, Value.isRef]
  exact a1
theorem lx_iinc4 {x : am_X} {sb : Nat} {cc : ByteArray} {own : String} {n mc ms : Nat} (hC : am_C x cc own n mc ms) {pc k z : Nat} {h : am_H} {st : List Value} {y0 y1 y2 y3 : Option Value} {tl : List (Option Value)} {v c0 : Int} (d : decode cc pc = .ok (.iinc 4 c0, 3)) (hp : am_n2 y3 = true) (kk : lx_W x sb (pc + 3) k z h (y0 :: y1 :: y2 :: y3 :: some (vI (v + c0)) :: tl) (st)) : lx_W x sb (pc) k z h (y0 :: y1 :: y2 :: y3 :: some (vI v) :: tl) (st) := by
  obtain ⟨p, l, e, R, s, m, args, below, meth, c, Q, g, nL⟩ := x
  obtain ⟨hx, hb, hml, hown, hts, hI, hlk, hR⟩ := hC
  intro H locs la hH hS hL hz0
  have hlt : 4 < nL := by have := hL.2.1; simp at this; omega
  obtain ⟨la', e1, hL'⟩ := am_st1 (i := 4) (vI (v + c0)) hL hlt rfl (am_hp (i := 3) rfl hp)
  have hz0' := lx_st1 (i := 4) hL hz0 hlt (by decide) rfl e1
  have hg : la[4]? = some (.val (.int (Int32.ofInt v))) := hL.2.2 4 _ rfl
  intro T hT X
  obtain ⟨t, a1, b1⟩ := kk H locs la' hH hS hL' hz0' T hT X
  refine ⟨t, ?_, b1⟩
  have e2 : storeLocals la 4 (.int (Int32.ofInt v + Int32.ofInt c0)) = some la' := by rw [← Int32.ofInt_add]; exact e1
  jvm_step X.here [X.here.top, ↓top_set X.here.top, hx, hb, d, hg, e2]
  exact a1
theorem lx_iand {x : am_X} {sb : Nat} {cc : ByteArray} {own : String} {n mc ms : Nat} (hC : am_C x cc own n mc ms) {pc k z : Nat} {h : am_H} {ls : List (Option Value)} {st : List Value} {a b : Int} (j : Nat) (b2 : Int) (d : decode cc pc = .ok (.iand, 1)) (hj : j ≤ 32) (hm : b = 2 ^ j - 1) (hm2 : b2 = 2 ^ j) (kk : lx_W x sb (pc + 1) k z h ls (vI (a % b2) :: st)) : lx_W x sb (pc) k z h ls (vI b :: vI a :: st) := by
  obtain ⟨p, l, e, R, s, m, args, below, meth, c, Q, g, nL⟩ := x
  obtain ⟨hx, hb, hml, hown, hts, hI, hlk, hR⟩ := hC
  intro H locs la hH hS hL hz0
  subst hm
  subst hm2
  have h1 := kk H locs la hH hS hL hz0
  refine lv_iand hx hb d ?_
  rw [am_mask32 a j hj]
  exact h1
theorem lx_isub {x : am_X} {sb : Nat} {cc : ByteArray} {own : String} {n mc ms : Nat} (hC : am_C x cc own n mc ms) {pc k z : Nat} {h : am_H} {ls : List (Option Value)} {st : List Value} {a b : Int} (d : decode cc pc = .ok (.isub, 1)) (kk : lx_W x sb (pc + 1) k z h ls (vI (a - b) :: st)) : lx_W x sb (pc) k z h ls (vI b :: vI a :: st) := by
  obtain ⟨p, l, e, R, s, m, args, below, meth, c, Q, g, nL⟩ := x
  obtain ⟨hx, hb, hml, hown, hts, hI, hlk, hR⟩ := hC
  intro H locs la hH hS hL hz0
  have h1 := kk H locs la hH hS hL hz0
  refine lv_isub hx hb d ?_
  rw [← Int32.ofInt_sub]
  exact h1
theorem lx_i2l {x : am_X} {sb : Nat} {cc : ByteArray} {own : String} {n mc ms : Nat} (hC : am_C x cc own n mc ms) {pc k z : Nat} {h : am_H} {ls : List (Option Value)} {st : List Value} {a : Int} (d : decode cc pc = .ok (.i2l, 1)) (ha : -2147483648 ≤ a ∧ a ≤ 2147483647) (kk : lx_W x sb (pc + 1) k z h ls (vL a :: st)) : lx_W x sb (pc) k z h ls (vI a :: st) := by
  obtain ⟨p, l, e, R, s, m, args, below, meth, c, Q, g, nL⟩ := x
  obtain ⟨hx, hb, hml, hown, hts, hI, hlk, hR⟩ := hC
  intro H locs la hH hS hL hz0
  have h1 := kk H locs la hH hS hL hz0
  refine lv_i2l hx hb d (v := Int64.ofInt a) ?_ h1
  apply Int64.toInt_inj.mp
  rw [Int32.toInt_toInt64, am_t32 ha, am_t64 (by omega)]
theorem lx_dup {x : am_X} {sb : Nat} {cc : ByteArray} {own : String} {n mc ms : Nat} (hC : am_C x cc own n mc ms) {pc k z : Nat} {h : am_H} {ls : List (Option Value)} {st : List Value} {v : Value} (d : decode cc pc = .ok (.dup, 1)) (hv : v.category = 1) (kk : lx_W x sb (pc + 1) k z h ls (v :: v :: st)) : lx_W x sb (pc) k z h ls (v :: st) := by
  obtain ⟨p, l, e, R, s, m, args, below, meth, c, Q, g, nL⟩ := x
  obtain ⟨hx, hb, hml, hown, hts, hI, hlk, hR⟩ := hC
  intro H locs la hH hS hL hz0
  exact lv_dup hx hb d (by rw [am_cat]; exact hv) (kk H locs la hH hS hL hz0)
theorem lx_goto {x : am_X} {sb : Nat} {cc : ByteArray} {own : String} {n mc ms : Nat} (hC : am_C x cc own n mc ms) {pc k z : Nat} {h : am_H} {ls : List (Option Value)} {st : List Value} {off : Int} (tgt : Nat) (d : decode cc pc = .ok (.goto off, 3)) (ht : (pc : Int) + off = (tgt : Int)) (kk : lx_W x sb (tgt) k z h ls (st)) : lx_W x sb (pc) k z h ls (st) := by
  obtain ⟨p, l, e, R, s, m, args, below, meth, c, Q, g, nL⟩ := x
  obtain ⟨hx, hb, hml, hown, hts, hI, hlk, hR⟩ := hC
  intro H locs la hH hS hL hz0
  exact lv_goto hx hb d ht (kk H locs la hH hS hL hz0)
theorem lx_if_ne {x : am_X} {sb : Nat} {cc : ByteArray} {own : String} {n mc ms : Nat} (hC : am_C x cc own n mc ms) {pc k z : Nat} {h : am_H} {ls : List (Option Value)} {st : List Value} {a off : Int} (tgt : Nat) (d : decode cc pc = .ok (.ifCond .ne off, 3)) (ht : (pc : Int) + off = (tgt : Int)) (ha : -2147483648 ≤ a ∧ a ≤ 2147483647) (kt : ¬ a = 0 → lx_W x sb (tgt) k z h ls (st)) (kf : a = 0 → lx_W x sb (pc + 3) k z h ls (st)) : lx_W x sb (pc) k z h ls (vI a :: st) := by
  obtain ⟨p, l, e, R, s, m, args, below, meth, c, Q, g, nL⟩ := x
  obtain ⟨hx, hb, hml, hown, hts, hI, hlk, hR⟩ := hC
  intro H locs la hH hS hL hz0
  exact lv_if_ne hx hb d ht (fun q => kt (by rw [am_z32, am_eq32 ha (by omega)] at q; omega) H locs la hH hS hL hz0) (fun q => kf (by rw [am_z32, am_eq32 ha (by omega)] at q; omega) H locs la hH hS hL hz0)
theorem lx_if_eq {x : am_X} {sb : Nat} {cc : ByteArray} {own : String} {n mc ms : Nat} (hC : am_C x cc own n mc ms) {pc k z : Nat} {h : am_H} {ls : List (Option Value)} {st : List Value} {a off : Int} (tgt : Nat) (d : decode cc pc = .ok (.ifCond .eq off, 3)) (ht : (pc : Int) + off = (tgt : Int)) (ha : -2147483648 ≤ a ∧ a ≤ 2147483647) (kt : a = 0 → lx_W x sb (tgt) k z h ls (st)) (kf : ¬ a = 0 → lx_W x sb (pc + 3) k z h ls (st)) : lx_W x sb (pc) k z h ls (vI a :: st) := by
  obtain ⟨p, l, e, R, s, m, args, below, meth, c, Q, g, nL⟩ := x
  obtain ⟨hx, hb, hml, hown, hts, hI, hlk, hR⟩ := hC
  intro H locs la hH hS hL hz0
  exact lv_if_eq hx hb d ht (fun q => kt (by rw [am_z32, am_eq32 ha (by omega)] at q; omega) H locs la hH hS hL hz0) (fun q => kf (by rw [am_z32, am_eq32 ha (by omega)] at q; omega) H locs la hH hS hL hz0)
theorem lx_icmp_eq {x : am_X} {sb : Nat} {cc : ByteArray} {own : String} {n mc ms : Nat} (hC : am_C x cc own n mc ms) {pc k z : Nat} {h : am_H} {ls : List (Option Value)} {st : List Value} {a b off : Int} (tgt : Nat) (d : decode cc pc = .ok (.if_icmp .eq off, 3)) (ht : (pc : Int) + off = (tgt : Int)) (ha : -2147483648 ≤ a ∧ a ≤ 2147483647) (hb2 : -2147483648 ≤ b ∧ b ≤ 2147483647) (kt : a = b → lx_W x sb (tgt) k z h ls (st)) (kf : ¬ a = b → lx_W x sb (pc + 3) k z h ls (st)) : lx_W x sb (pc) k z h ls (vI b :: vI a :: st) := by
  obtain ⟨p, l, e, R, s, m, args, below, meth, c, Q, g, nL⟩ := x
  obtain ⟨hx, hb, hml, hown, hts, hI, hlk, hR⟩ := hC
  intro H locs la hH hS hL hz0
  exact lv_icmp_eq hx hb d ht (fun q => kt (by rw [am_eq32 ha hb2] at q; omega) H locs la hH hS hL hz0) (fun q => kf (by rw [am_eq32 ha hb2] at q; omega) H locs la hH hS hL hz0)
theorem lx_icmp_gt {x : am_X} {sb : Nat} {cc : ByteArray} {own : String} {n mc ms : Nat} (hC : am_C x cc own n mc ms) {pc k z : Nat} {h : am_H} {ls : List (Option Value)} {st : List Value} {a b off : Int} (tgt : Nat) (d : decode cc pc = .ok (.if_icmp .gt off, 3)) (ht : (pc : Int) + off = (tgt : Int)) (ha : -2147483648 ≤ a ∧ a ≤ 2147483647) (hb2 : -2147483648 ≤ b ∧ b ≤ 2147483647) (kt : b < a → lx_W x sb (tgt) k z h ls (st)) (kf : ¬ b < a → lx_W x sb (pc + 3) k z h ls (st)) : lx_W x sb (pc) k z h ls (vI b :: vI a :: st) := by
  obtain ⟨p, l, e, R, s, m, args, below, meth, c, Q, g, nL⟩ := x
  obtain ⟨hx, hb, hml, hown, hts, hI, hlk, hR⟩ := hC
  intro H locs la hH hS hL hz0
  exact lv_icmp_gt hx hb d ht (fun q => kt (by first | (rw [am_lt32 ha hb2] at q; omega) | (rw [am_le32 ha hb2] at q; omega) | (rw [am_lt32 hb2 ha] at q; omega) | (rw [am_le32 hb2 ha] at q; omega)) H locs la hH hS hL hz0) (fun q => kf (by first | (rw [am_lt32 ha hb2] at q; omega) | (rw [am_le32 ha hb2] at q; omega) | (rw [am_lt32 hb2 ha] at q; omega) | (rw [am_le32 hb2 ha] at q; omega)) H locs la hH hS hL hz0)
theorem lx_lcmp {x : am_X} {sb : Nat} {cc : ByteArray} {own : String} {n mc ms : Nat} (hC : am_C x cc own n mc ms) {pc k z : Nat} {h : am_H} {ls : List (Option Value)} {st : List Value} {a b : Int} (d : decode cc pc = .ok (.lcmp, 1)) (ha : -9223372036854775808 ≤ a ∧ a ≤ 9223372036854775807) (hb2 : -9223372036854775808 ≤ b ∧ b ≤ 9223372036854775807) (kk : lx_W x sb (pc + 1) k z h ls (vI (am_cmp a b) :: st)) : lx_W x sb (pc) k z h ls (vL b :: vL a :: st) := by
  obtain ⟨p, l, e, R, s, m, args, below, meth, c, Q, g, nL⟩ := x
  obtain ⟨hx, hb, hml, hown, hts, hI, hlk, hR⟩ := hC
  intro H locs la hH hS hL hz0
  have h1 := kk H locs la hH hS hL hz0
  refine W.lcmp hx hb d ?_
  rw [am_lgcmp ha hb2]
  exact h1
theorem lx_lif_eq {x : am_X} {sb : Nat} {cc : ByteArray} {own : String} {n mc ms : Nat} (hC : am_C x cc own n mc ms) {pc k z : Nat} {h : am_H} {ls : List (Option Value)} {st : List Value} {a b off : Int} (tgt : Nat) (d : decode cc pc = .ok (.lcmp, 1)) (d2 : decode cc (pc + 1) = .ok (.ifCond .eq off, 3)) (ht : (pc : Int) + 1 + off = (tgt : Int)) (ha : -9223372036854775808 ≤ a ∧ a ≤ 9223372036854775807) (hb2 : -9223372036854775808 ≤ b ∧ b ≤ 9223372036854775807) (kt : a = b → lx_W x sb (tgt) k z h ls (st)) (kf : ¬ a = b → lx_W x sb (pc + 4) k z h ls (st)) : lx_W x sb (pc) k z h ls (vL b :: vL a :: st) := by
  have hr := am_cmpr a b
  refine lx_lcmp hC d ha hb2 (lx_if_eq hC tgt d2 (by omega) (by omega) (fun q => kt ?_) (fun q => kf ?_)) <;> (unfold am_cmp at q; revert q; split <;> (try split) <;> omega)
theorem lx_lald {x : am_X} {sb : Nat} {cc : ByteArray} {own : String} {n mc ms : Nat} (hC : am_C x cc own n mc ms) {pc k z : Nat} {h : am_H} {ls : List (Option Value)} {st : List Value} {i N : Nat} {f : Nat → Int} {j : Int} (d : decode cc pc = .ok (.laload, 1)) (ho : h.2 i = some (eL N f)) (hj : 0 ≤ j ∧ j < N) (hN : N ≤ 2147483647) (kk : lx_W x sb (pc + 1) k z h ls (vL (f j.toNat) :: st)) : lx_W x sb pc k z h ls (vI j :: .ref i :: st) := by
  obtain ⟨p, l, e, R, s, m, args, below, meth, c, Q, g, nL⟩ := x
  obtain ⟨hx, hb, hml, hown, hts, hI, hlk, hR⟩ := hC
  intro H locs la hH hS hL hz0
  refine va_lald hx hb hI.1 (hH.one ho) 0 1 rfl (am_tys1 g) (am_in32 hj hN) d ?_
  rw [am_cl32 (by omega)]
  exact kk H locs la hH hS hL hz0
theorem lx_newL {x : am_X} {sb : Nat} {cc : ByteArray} {own : String} {n mc ms : Nat} (hC : am_C x cc own n mc ms) {pc k z : Nat} {h : am_H} {ls : List (Option Value)} {st : List Value} {a : Int} (N : Nat) (d : decode cc pc = .ok (.newarray .long, 2)) (ha : a = N) (hN : N ≤ 100000) (hc : k + 1 ≤ mc) (hs : z + N ≤ ms) (kk : lx_W x sb (pc + 2) (k + 1) (z + N) (am_push h (eL N (fun _ => 0))) ls (.ref h.1 :: st)) : lx_W x sb pc k z h ls (vI a :: st) := by
  obtain ⟨p, l, e, R, s, m, args, below, meth, c, Q, g, nL⟩ := x
  obtain ⟨hx, hb, hml, hown, hts, hI, hlk, hR⟩ := hC
  intro H locs la hH hS hL hz0
  subst ha; subst hR
  refine va_newaK (N := N) hx hb (hts _ (am_in (by decide +kernel) rfl)) rfl d rfl (fun q => by rw [am_z32, am_lt32 (by omega) (by omega)] at q; omega) (by rw [am_cl32 (by omega)]; omega) (by show N * 8 ≤ _; omega) hc hs hH.1 fun H1 cA e1 e2 e3 e4 e5 => ?_
  have e6 : cA = g.2.2.2.1 := Option.some.inj (e5.symm.trans (hI.1.2 1 _ (am_tys1 g)).2)
  subst e6
  refine kk H1 locs la (hH.push _ (by rw [e2, hH.1]) (fun a ha => e3 a (by rw [← hH.1]; exact ha)) ?_) (am_S.push hS (by rw [e2, hH.1]; omega) (fun a ha => e3 a (by rw [← hH.1]; exact ha))) hL hz0
  rw [hH.1]
  exact e1
theorem lx_new {x : am_X} {sb : Nat} {cc : ByteArray} {own : String} {n mc ms : Nat} (hC : am_C x cc own n mc ms) {pc k z : Nat} {h : am_H} {ls : List (Option Value)} {st : List Value} {idx ci : Nat} (q : vw_C) (tys : Nat → FieldType) (fs : List Value) (d : decode cc pc = .ok (.new idx, 3)) (hq : am_cl[ci]? = some q) (htys : ∀ j, j < q.2.2 → parseFieldDescriptor (q.2.1 j).2.2.1 = some (tys j)) (hfs : ∀ (b j : Nat), j < q.2.2 → defaultValue (tys j) = vp_V (fs.map (am_c b)) j)
    (h1 : Cond.classLink own idx q.1 ∈ am_ws) (h2 : Cond.instantiable q.1 q.2.2 ∈ am_ws) (h3 : Cond.initialized q.1 ∈ am_ws) (hc : k + 1 ≤ mc) (hs : z + q.2.2 ≤ ms) (kk : lx_W x sb (pc + 3) (k + 1) (z + q.2.2) (am_push h (eO ci fs)) ls (.ref h.1 :: st)) : lx_W x sb pc k z h ls st := by
  obtain ⟨p, l, e, R, s, m, args, below, meth, c, Q, g, nL⟩ := x
  obtain ⟨hx, hb, hml, hown, hts, hI, hlk, hR⟩ := hC
  intro H locs la hH hS hL hz0
  subst hR
  have hKn := hI.1.1 ci _ hq
  refine W.newcK hx hb hown (hts _ h1) (hts _ h2) (hts _ h3) rfl d hc hs hKn.2.1 rfl fun H1 kC hkC e1 z1 o1 => ?_
  have h9 := kk H1 locs la (hH.push _ z1 o1 ⟨_, hq, (u_born tys hts (am_cl_in ci q hq) hKn hkC e1 htys).to (hfs g.1)⟩) (am_S.push hS (by omega) o1) hL hz0
  rw [List.map_cons, am_cA, ← hH.1] at h9
  exact h9
theorem lx_wid {x : am_X} {sb : Nat} {cc : ByteArray} {own : String} {n mc ms : Nat} (hC : am_C x cc own n mc ms) {pc k z : Nat} {h : am_H} {ls : List (Option Value)} {st : List Value} {k2 z2 : Nat} (hk : k ≤ k2) (hz : z ≤ z2) (kk : lx_W x sb pc k2 z2 h ls st) : lx_W x sb pc k z h ls st := by
  obtain ⟨p, l, e, R, s, m, args, below, meth, c, Q, g, nL⟩ := x
  obtain ⟨hx, hb, hml, hown, hts, hI, hlk, hR⟩ := hC
  intro H locs la hH hS hL hz0
  exact W.widen hk hz (kk H locs la hH hS hL hz0)
theorem lx_after {x : am_X} {p : Program} {l : Launch} {e : Env} {R : Room} {s : State} {m : MethodId} {args : Array Value} {below : List Frame} {meth : Method} {c : Code} {Q : State → Prop} {g : am_G} {nL : Nat} {H : Heap} {locs : List Loc} {k z mc2 ms2 pc : Nat} {la : Array Slot} {st0 rest : List Value} {ls : List (Option Value)} {a : Array Value} {R1 : Option Value → am_H → Prop}
    (hS : va_S (am_A g) s.heap H locs) {sb : Nat} (hL : am_L g.1 nL ls la) (hz0 : la[0]? = some (.val (.ref sb))) (hr : va_Run p l e R s m args below meth c H locs k z mc2 ms2 (F0 m pc la st0) (rest.map (am_c g.1)) (am_Q g R1 a) (am_A g))
    (kk : ∀ (r : Option Value) (h1 : am_H), R1 r h1 → lx_W (p, l, e, R, s, m, args, below, meth, c, Q, g, nL) sb (pc + 3) (k + mc2) (z + ms2) h1 ls (r.toList ++ rest)) : W p l e R s m args below meth c H locs k z Q (F0 m pc la st0) := by
  intro T hT X
  obtain ⟨v, st₀, t, T', L, h0, X', hL1, e1, e2, ⟨⟨r, h1, hv, hp, hb⟩, hz, hk⟩, st⟩ := hr T hT X
  cases hv
  rw [h0] at hz hk
  have hS1 : va_S (am_A g) s.heap T'.heap (locs ++ L) := ⟨Nat.le_trans hS.1 (by rw [e1]; exact hz), fun q h1 h2 => by rw [e1, hk q (Nat.lt_of_lt_of_le h1 hS.1) h2]; exact hS.2.1 q h1 h2, fun q hq => by
      rcases List.mem_append.mp hq with h | h
      · exact hS.2.2 q h
      · exact hL1 q h⟩
  have e9 : (r.map (am_c g.1)).toList ++ rest.map (am_c g.1) = (r.toList ++ rest).map (am_c g.1) := by cases r <;> simp
  obtain ⟨t2, a1, b1⟩ := kk r h1 hp T'.heap (locs ++ L) la (by rw [e1]; exact hb) hS1 hL hz0 T' rfl X'
  rw [← e9] at a1
  exact ⟨t2, st t2 a1, b1⟩
theorem lx_callV {x : am_X} {sb : Nat} {cc : ByteArray} {own : String} {n mc ms : Nat} (hC : am_C x cc own n mc ms) {pc k z : Nat} {h : am_H} {ls : List (Option Value)} {st : List Value} {idx n2 mc2 ms2 maxL na : Nat} {y : MethodName} {cc2 : ByteArray} {R1 : Option Value → am_H → Prop} {ret : Option FieldType} {i ci : Nat} {fs vs sk : List Value} (d : decode cc pc = .ok (.invokevirtual idx, 3)) (hK : am_KV own idx y cc2 maxL ret na) (hM : am_Met (am_l x) (am_g x) y (am_W1 y cc2 maxL ret) n2 mc2 ms2 (.ref i :: vs) h R1) (hsk : sk = vs.reverse ++ .ref i :: st)
    (ho : h.2 i = some (eO ci fs)) (hq : (am_cl[ci]?).map (·.1) = some y.cls) (hna : vs.length = na) (hst : (st.map fun v => v.category).sum ≤ 8) (hn : n2 + 1 ≤ n) (hc : k + mc2 ≤ mc) (hs : z + ms2 ≤ ms)
    (kk : ∀ (r : Option Value) (h1 : am_H), R1 r h1 → lx_W x sb (pc + 3) (k + mc2) (z + ms2) h1 ls (r.toList ++ st)) : lx_W x sb pc k z h ls sk := by
  obtain ⟨p, l, e, R, s, m, args, below, meth, c, Q, g, nL⟩ := x
  obtain ⟨hx, hb, hml, hown, hts, hI, hlk, hR⟩ := hC
  obtain ⟨⟨k1, k2, k3, k4⟩, k5, k6, k7⟩ := hK
  intro H locs la hH hS hL hz0
  subst hR
  subst hsk
  obtain ⟨q, hq1, hq2⟩ := Option.map_eq_some_iff.mp hq
  have cw := cwV (args := args) (s := s) (R := am_rm n mc ms) (own := own) (C := y.cls) (index := idx) (y := y) (bytes := cc2) (maxL := maxL) (ret := ret) (Ts := am_ws) (ws := am_W1 y cc2 maxL ret) (rm := am_rm n2 mc2 ms2) na hts (goodIn_app (fun w hw => by
      have hm : w ∈ am_ws := by
        simp only [List.mem_cons, List.not_mem_nil, or_false] at hw
        rcases hw with rfl | rfl | rfl | rfl <;> assumption
      exact ⟨hm, good_of_word (am_ws_good w hm)⟩) (am_good1 k2)) rfl rfl rfl ⟨rfl, k3.1, k3.2.1, k3.2.2⟩ ⟨hn, by show 8 + (maxL + 11) + 70 * n2 ≤ 70 * n; omega⟩
  have hrun := va_runV (e := e) (meth := meth) (below := below) (As := vs.map (am_c g.1)) (rest := st.map (am_c g.1)) (b := g.1 + i) (H := H) (locs := locs) (cells := k) (slots := z) (g := F0 m pc la ((vs.reverse ++ .ref i :: st).map (am_c g.1))) ⟨hx, hb, hml, hown, hts⟩ hM cw ⟨am_blind g _ h, by
      have := va_recv hI.1 (hH.one ho) hq1 (q0 := 0) rfl
      rw [hq2] at this
      exact this, fun U hU hW => am_pre (vs := .ref i :: vs) hI hH hS hU hW⟩ rfl (by rw [List.length_map]; exact hna) hL.1.1 (by rw [List.map_append, List.map_reverse]; rfl) (lv_room (by rw [am_catsum]; exact hst)) d ⟨hc, hs⟩
  exact lx_after (x := (p, l, e, am_rm n mc ms, s, m, args, below, meth, c, Q, g, nL)) hS hL hz0 hrun kk
theorem lx_callI {x : am_X} {sb : Nat} {cc : ByteArray} {own : String} {n mc ms : Nat} (hC : am_C x cc own n mc ms) {pc k z : Nat} {h : am_H} {ls : List (Option Value)} {st : List Value} {idx n2 mc2 ms2 maxL na : Nat} {y : MethodName} {cc2 : ByteArray} {R1 : Option Value → am_H → Prop} {i : Nat} {vs sk : List Value} (d : decode cc pc = .ok (.invokespecial idx, 3)) (hK : am_KI own idx y cc2 maxL na) (hM : am_Met (am_l x) (am_g x) y (am_W1 y cc2 maxL none) n2 mc2 ms2 (.ref i :: vs) h R1) (hsk : sk = vs.reverse ++ .ref i :: st)
    (hna : vs.length = na) (hst : (st.map fun v => v.category).sum ≤ 8) (hn : n2 + 1 ≤ n) (hc : k + mc2 ≤ mc) (hs : z + ms2 ≤ ms)
    (kk : ∀ (r : Option Value) (h1 : am_H), R1 r h1 → lx_W x sb (pc + 3) (k + mc2) (z + ms2) h1 ls (r.toList ++ st)) : lx_W x sb pc k z h ls sk := by
  obtain ⟨p, l, e, R, s, m, args, below, meth, c, Q, g, nL⟩ := x
  obtain ⟨hx, hb, hml, hown, hts, hI, hlk, hR⟩ := hC
  obtain ⟨⟨k1, k2, k3, k4⟩, k5, k6, k7⟩ := hK
  intro H locs la hH hS hL hz0
  subst hR
  subst hsk
  rcases k7 with k7 | ⟨host, k7⟩
  · have cw := cwI (args := args) (s := s) (R := am_rm n mc ms) (own := own) (index := idx) (y := y) (bytes := cc2) (maxL := maxL) (Ts := am_ws) (ws := am_W1 y cc2 maxL none) (rm := am_rm n2 mc2 ms2) na hts (am_good1 k2) rfl rfl rfl (hts _ k1) (hts _ k7) (hts _ k6) k5 k3 ⟨hn, by show 8 + (maxL + 11) + 70 * n2 ≤ 70 * n; omega⟩
    have hrun := va_runI (e := e) (meth := meth) (below := below) (As := vs.map (am_c g.1)) (b := g.1 + i) (rest := st.map (am_c g.1)) (H := H) (locs := locs) (cells := k) (slots := z) (g := F0 m pc la ((vs.reverse ++ .ref i :: st).map (am_c g.1))) ⟨hx, hb, hml, hown, hts⟩ hM cw ⟨am_blind g _ h, fun U hU hW => am_pre (vs := .ref i :: vs) hI hH hS hU hW⟩ rfl (by rw [List.length_map]; exact hna) hL.1.1 (by rw [List.map_append, List.map_reverse]; rfl) (lv_room (by rw [am_catsum]; exact hst)) d ⟨hc, hs⟩
    exact lx_after (x := (p, l, e, am_rm n mc ms, s, m, args, below, meth, c, Q, g, nL)) hS hL hz0 hrun kk
  · have cw := va_cnB (args := args) (s := s) (R := am_rm n mc ms) (own := own) (host := host) (index := idx) (y := y) (bytes := cc2) (maxL := maxL) (ret := none) (Ts := am_ws) (ws := am_W1 y cc2 maxL none) (rm := am_rm n2 mc2 ms2) na hts (am_good1 k2) rfl rfl rfl (hI.2.2.2.2.2.1 _ _ _ _ k7) (hts _ k1) k3 ⟨hn, by show 8 + (maxL + 11) + 70 * n2 ≤ 70 * n; omega⟩
    have hrun := va_runIN (e := e) (meth := meth) (below := below) (As := vs.map (am_c g.1)) (b := g.1 + i) (rest := st.map (am_c g.1)) (H := H) (locs := locs) (cells := k) (slots := z) (g := F0 m pc la ((vs.reverse ++ .ref i :: st).map (am_c g.1))) ⟨hx, hb, hml, hown, hts⟩ hM ⟨cw, k5, hts _ k6⟩ ⟨am_blind g _ h, fun U hU hW => am_pre (vs := .ref i :: vs) hI hH hS hU hW⟩ rfl (by rw [List.length_map]; exact hna) hL.1.1 (by rw [List.map_append, List.map_reverse]; rfl) (lv_room (by rw [am_catsum]; exact hst)) d ⟨hc, hs⟩
    exact lx_after (x := (p, l, e, am_rm n mc ms, s, m, args, below, meth, c, Q, g, nL)) hS hL hz0 hrun kk
theorem lx_V0_pI {x : am_X} {sb : Nat} {cc : ByteArray} {own : String} {n mc ms : Nat} (hC : am_C x cc own n mc ms) {pc k z : Nat} {h : am_H} {ls : List (Option Value)} {st : List Value} {idx n2 mc2 ms2 maxL : Nat} {y : MethodName} {cc2 : ByteArray} {ret : Option FieldType} {i : Nat} (ci : Nat) {fs : List Value} {v : Int} (d : decode cc pc = .ok (.invokevirtual idx, 3)) (hK : am_KV own idx y cc2 maxL ret 0) (hM : am_Met (am_l x) (am_g x) y (am_W1 y cc2 maxL ret) n2 mc2 ms2 (.ref i :: []) h (pI v h)) (ho : h.2 i = some (eO ci fs)) (hq : (am_cl[ci]?).map (·.1) = some y.cls) (hst : (st.map fun v => v.category).sum ≤ 8) (hn : n2 + 1 ≤ n) (hc : k + mc2 ≤ mc) (hs : z + ms2 ≤ ms) (kk : lx_W x sb (pc + 3) (k + mc2) (z + ms2) h ls (vI v :: st)) : lx_W x sb pc k z h ls (.ref i :: st) :=
  lx_callV hC d hK hM rfl ho hq rfl hst hn hc hs (fun r h1 q => by obtain ⟨rfl, rfl⟩ := q; exact kk)
theorem lx_V0_qN {x : am_X} {sb : Nat} {cc : ByteArray} {own : String} {n mc ms : Nat} (hC : am_C x cc own n mc ms) {pc k z : Nat} {h : am_H} {ls : List (Option Value)} {st : List Value} {idx n2 mc2 ms2 maxL : Nat} {y : MethodName} {cc2 : ByteArray} {ret : Option FieldType} {i : Nat} (ci : Nat) {fs : List Value} {P : am_H → Prop} (d : decode cc pc = .ok (.invokevirtual idx, 3)) (hK : am_KV own idx y cc2 maxL ret 0) (hM : am_Met (am_l x) (am_g x) y (am_W1 y cc2 maxL ret) n2 mc2 ms2 (.ref i :: []) h (qN P)) (ho : h.2 i = some (eO ci fs)) (hq : (am_cl[ci]?).map (·.1) = some y.cls) (hst : (st.map fun v => v.category).sum ≤ 8) (hn : n2 + 1 ≤ n) (hc : k + mc2 ≤ mc) (hs : z + ms2 ≤ ms) (kk : ∀ h1 : am_H, P h1 → lx_W x sb (pc + 3) (k + mc2) (z + ms2) h1 ls st) : lx_W x sb pc k z h ls (.ref i :: st) :=
  lx_callV hC d hK hM rfl ho hq rfl hst hn hc hs (fun r h1 q => by obtain ⟨rfl, q⟩ := q; exact kk h1 q)
theorem lx_V1_qI {x : am_X} {sb : Nat} {cc : ByteArray} {own : String} {n mc ms : Nat} (hC : am_C x cc own n mc ms) {pc k z : Nat} {h : am_H} {ls : List (Option Value)} {st : List Value} {idx n2 mc2 ms2 maxL : Nat} {y : MethodName} {cc2 : ByteArray} {ret : Option FieldType} {i : Nat} (ci : Nat) {fs : List Value} {a0 : Value} {P : Int → am_H → Prop} (d : decode cc pc = .ok (.invokevirtual idx, 3)) (hK : am_KV own idx y cc2 maxL ret 1) (hM : am_Met (am_l x) (am_g x) y (am_W1 y cc2 maxL ret) n2 mc2 ms2 (.ref i :: [a0]) h (qI P)) (ho : h.2 i = some (eO ci fs)) (hq : (am_cl[ci]?).map (·.1) = some y.cls) (hst : (st.map fun v => v.category).sum ≤ 8) (hn : n2 + 1 ≤ n) (hc : k + mc2 ≤ mc) (hs : z + ms2 ≤ ms) (kk : ∀ (v : Int) (h1 : am_H), P v h1 → lx_W x sb (pc + 3) (k + mc2) (z + ms2) h1 ls (vI v :: st)) : lx_W x sb pc k z h ls (a0 :: .ref i :: st) :=
  lx_callV hC d hK hM rfl ho hq rfl hst hn hc hs (fun r h1 q => by obtain ⟨v, rfl, q⟩ := q; exact kk v h1 q)
theorem lx_V2_qI {x : am_X} {sb : Nat} {cc : ByteArray} {own : String} {n mc ms : Nat} (hC : am_C x cc own n mc ms) {pc k z : Nat} {h : am_H} {ls : List (Option Value)} {st : List Value} {idx n2 mc2 ms2 maxL : Nat} {y : MethodName} {cc2 : ByteArray} {ret : Option FieldType} {i : Nat} (ci : Nat) {fs : List Value} {a0 a1 : Value} {P : Int → am_H → Prop} (d : decode cc pc = .ok (.invokevirtual idx, 3)) (hK : am_KV own idx y cc2 maxL ret 2) (hM : am_Met (am_l x) (am_g x) y (am_W1 y cc2 maxL ret) n2 mc2 ms2 (.ref i :: [a0, a1]) h (qI P)) (ho : h.2 i = some (eO ci fs)) (hq : (am_cl[ci]?).map (·.1) = some y.cls) (hst : (st.map fun v => v.category).sum ≤ 8) (hn : n2 + 1 ≤ n) (hc : k + mc2 ≤ mc) (hs : z + ms2 ≤ ms) (kk : ∀ (v : Int) (h1 : am_H), P v h1 → lx_W x sb (pc + 3) (k + mc2) (z + ms2) h1 ls (vI v :: st)) : lx_W x sb pc k z h ls (a1 :: a0 :: .ref i :: st) :=
  lx_callV hC d hK hM rfl ho hq rfl hst hn hc hs (fun r h1 q => by obtain ⟨v, rfl, q⟩ := q; exact kk v h1 q)
theorem lx_V3_qI {x : am_X} {sb : Nat} {cc : ByteArray} {own : String} {n mc ms : Nat} (hC : am_C x cc own n mc ms) {pc k z : Nat} {h : am_H} {ls : List (Option Value)} {st : List Value} {idx n2 mc2 ms2 maxL : Nat} {y : MethodName} {cc2 : ByteArray} {ret : Option FieldType} {i : Nat} (ci : Nat) {fs : List Value} {a0 a1 a2 : Value} {P : Int → am_H → Prop} (d : decode cc pc = .ok (.invokevirtual idx, 3)) (hK : am_KV own idx y cc2 maxL ret 3) (hM : am_Met (am_l x) (am_g x) y (am_W1 y cc2 maxL ret) n2 mc2 ms2 (.ref i :: [a0, a1, a2]) h (qI P)) (ho : h.2 i = some (eO ci fs)) (hq : (am_cl[ci]?).map (·.1) = some y.cls) (hst : (st.map fun v => v.category).sum ≤ 8) (hn : n2 + 1 ≤ n) (hc : k + mc2 ≤ mc) (hs : z + ms2 ≤ ms) (kk : ∀ (v : Int) (h1 : am_H), P v h1 → lx_W x sb (pc + 3) (k + mc2) (z + ms2) h1 ls (vI v :: st)) : lx_W x sb pc k z h ls (a2 :: a1 :: a0 :: .ref i :: st) :=
  lx_callV hC d hK hM rfl ho hq rfl hst hn hc hs (fun r h1 q => by obtain ⟨v, rfl, q⟩ := q; exact kk v h1 q)
theorem lx_V2_qL {x : am_X} {sb : Nat} {cc : ByteArray} {own : String} {n mc ms : Nat} (hC : am_C x cc own n mc ms) {pc k z : Nat} {h : am_H} {ls : List (Option Value)} {st : List Value} {idx n2 mc2 ms2 maxL : Nat} {y : MethodName} {cc2 : ByteArray} {ret : Option FieldType} {i : Nat} (ci : Nat) {fs : List Value} {a0 a1 : Value} {P : Int → am_H → Prop} (d : decode cc pc = .ok (.invokevirtual idx, 3)) (hK : am_KV own idx y cc2 maxL ret 2) (hM : am_Met (am_l x) (am_g x) y (am_W1 y cc2 maxL ret) n2 mc2 ms2 (.ref i :: [a0, a1]) h (qL P)) (ho : h.2 i = some (eO ci fs)) (hq : (am_cl[ci]?).map (·.1) = some y.cls) (hst : (st.map fun v => v.category).sum ≤ 8) (hn : n2 + 1 ≤ n) (hc : k + mc2 ≤ mc) (hs : z + ms2 ≤ ms) (kk : ∀ (v : Int) (h1 : am_H), P v h1 → lx_W x sb (pc + 3) (k + mc2) (z + ms2) h1 ls (vL v :: st)) : lx_W x sb pc k z h ls (a1 :: a0 :: .ref i :: st) :=
  lx_callV hC d hK hM rfl ho hq rfl hst hn hc hs (fun r h1 q => by obtain ⟨v, rfl, q⟩ := q; exact kk v h1 q)
theorem lx_I0_qN {x : am_X} {sb : Nat} {cc : ByteArray} {own : String} {n mc ms : Nat} (hC : am_C x cc own n mc ms) {pc k z : Nat} {h : am_H} {ls : List (Option Value)} {st : List Value} {idx n2 mc2 ms2 maxL : Nat} {y : MethodName} {cc2 : ByteArray} {i : Nat} {P : am_H → Prop} (d : decode cc pc = .ok (.invokespecial idx, 3)) (hK : am_KI own idx y cc2 maxL 0) (hM : am_Met (am_l x) (am_g x) y (am_W1 y cc2 maxL none) n2 mc2 ms2 (.ref i :: []) h (qN P)) (hst : (st.map fun v => v.category).sum ≤ 8) (hn : n2 + 1 ≤ n) (hc : k + mc2 ≤ mc) (hs : z + ms2 ≤ ms) (kk : ∀ h1 : am_H, P h1 → lx_W x sb (pc + 3) (k + mc2) (z + ms2) h1 ls st) : lx_W x sb pc k z h ls (.ref i :: st) :=
  lx_callI hC d hK hM rfl rfl hst hn hc hs (fun r h1 q => by obtain ⟨rfl, q⟩ := q; exact kk h1 q)
theorem lx_heap {x : am_X} {sb : Nat} {pc k z : Nat} {h : am_H} {ls : List (Option Value)} {st : List Value} (kk : ∀ H, H = h → lx_W x sb pc k z H ls st) : lx_W x sb pc k z h ls st := kk h rfl
theorem lx_callSH {x : am_X} {sb : Nat} {cc : ByteArray} {own : String} {n mc ms : Nat} (hC : am_C x cc own n mc ms) {pc k z : Nat} {h : am_H} {ls : List (Option Value)} {st : List Value} {idx n2 mc2 ms2 maxL na : Nat} {y : MethodName} {cc2 : ByteArray} {R1 : Option Value → am_H → Prop} {ret : Option FieldType} {hh : List (Nat × Nat × Nat × Nat)} {vs sk : List Value} (d : decode cc pc = .ok (.invokestatic idx, 3)) (hK : am_KSH own idx y cc2 maxL ret hh na) (hM : am_Met (am_l x) (am_g x) y (am_WH y cc2 maxL ret hh) n2 mc2 ms2 vs h R1) (hsk : sk = vs.reverse ++ st)
    (hna : vs.length = na) (hst : (st.map fun v => v.category).sum ≤ 8) (hn : n2 + 1 ≤ n) (hc : k + mc2 ≤ mc) (hs : z + ms2 ≤ ms)
    (kk : ∀ (r : Option Value) (h1 : am_H), R1 r h1 → lx_W x sb (pc + 3) (k + mc2) (z + ms2) h1 ls (r.toList ++ st)) : lx_W x sb pc k z h ls sk := by
  obtain ⟨p, l, e, R, s, m, args, below, meth, c, Q, g, nL⟩ := x
  obtain ⟨hx, hb, hml, hown, hts, hI, hlk, hR⟩ := hC
  obtain ⟨k1, k2, k3, k4, k5, k6⟩ := hK
  intro H locs la hH hS hL hz0
  subst hR
  subst hsk
  have cw := vx_cwSW (args := args) (s := s) (R := am_rm n mc ms) (own := own) (index := idx) (y := y) (bytes := cc2) (maxL := maxL) (ret := ret) (hh := hh) (Ts := am_ws) (ws := am_WH y cc2 maxL ret hh) (rm := am_rm n2 mc2 ms2) na hts (goodIn_app (fun w hw => by
      have hm : w ∈ am_ws := by
        simp only [List.mem_cons, List.not_mem_nil, or_false] at hw
        rcases hw with rfl | rfl | rfl <;> assumption
      exact ⟨hm, good_of_word (am_ws_good w hm)⟩) (am_goodH k2)) rfl rfl rfl k3 ⟨hn, by show 8 + (maxL + 11) + 70 * n2 ≤ 70 * n; omega⟩
  have hrun := vx_runSW (e := e) (meth := meth) (below := below) (As := vs.map (am_c g.1)) (rest := st.map (am_c g.1)) (H := H) (locs := locs) (cells := k) (slots := z) (g := F0 m pc la ((vs.reverse ++ st).map (am_c g.1))) ⟨hx, hb, hml, hown, hts⟩ hM cw ⟨am_blind g _ h, fun U hU hW => am_pre (vs := vs) hI hH hS hU hW⟩ rfl (by rw [List.length_map]; exact hna) hL.1.1 (by rw [List.map_append, List.map_reverse]) (lv_room (by rw [am_catsum]; exact hst)) d ⟨hc, hs⟩
  exact lx_after (x := (p, l, e, am_rm n mc ms, s, m, args, below, meth, c, Q, g, nL)) hS hL hz0 hrun kk
theorem lx_SH {x : am_X} {sb : Nat} {cc : ByteArray} {own : String} {n mc ms : Nat} (hC : am_C x cc own n mc ms) {pc k z : Nat} {h : am_H} {ls : List (Option Value)} {st : List Value} {idx n2 mc2 ms2 maxL na : Nat} {y : MethodName} {cc2 : ByteArray} {P : Int → am_H → Prop} {ret : Option FieldType} {hh : List (Nat × Nat × Nat × Nat)} {vs sk : List Value} (d : decode cc pc = .ok (.invokestatic idx, 3)) (hK : am_KSH own idx y cc2 maxL ret hh na) (hM : am_Met (am_l x) (am_g x) y (am_WH y cc2 maxL ret hh) n2 mc2 ms2 vs h (qI P)) (hsk : sk = vs.reverse ++ st)
    (hna : vs.length = na) (hst : (st.map fun v => v.category).sum ≤ 8) (hn : n2 + 1 ≤ n) (hc : k + mc2 ≤ mc) (hs : z + ms2 ≤ ms)
    (kk : ∀ (v : Int) (h1 : am_H), P v h1 → lx_W x sb (pc + 3) (k + mc2) (z + ms2) h1 ls (vI v :: st)) : lx_W x sb pc k z h ls sk :=
  lx_callSH hC d hK hM hsk hna hst hn hc hs (fun r h1 q => by obtain ⟨v, rfl, q⟩ := q; exact kk v h1 q)
/-! the script -/
def lx_S (x : am_X) (sb L : Nat) (xs : Nat → Int32) : Prop := match x with
  | (_, _, _, _, s, _, _, _, _, _, _, g, _) => va_X sb L xs s s.heap ∧ sb < s.heap.size ∧ ¬ am_A g sb ∧ L ≤ 320
/-- an int of the script; two as a long -/
def scrI (xs : Nat → Int32) (i : Nat) : Int := (xs i).toInt
def scrJ (xs : Nat → Int32) (i : Nat) : Int := ((((xs i).toInt64 <<< ((32 : Int32).toInt64 &&& 63)) ||| ((xs (i + 1)).toInt64 &&& 4294967295) : Int64)).toInt
theorem scrI_r (xs : Nat → Int32) (i : Nat) : IR (scrI xs i) := ⟨by have := Int32.le_toInt (xs i); unfold scrI; omega, by have := Int32.toInt_lt (xs i); unfold scrI; omega⟩
theorem scrJ_r (xs : Nat → Int32) (i : Nat) : -9223372036854775808 ≤ scrJ xs i ∧ scrJ xs i ≤ 9223372036854775807 := ⟨by have := Int64.le_toInt ((((xs i).toInt64 <<< ((32 : Int32).toInt64 &&& 63)) ||| ((xs (i + 1)).toInt64 &&& 4294967295) : Int64)); unfold scrJ; omega, by have := Int64.toInt_lt ((((xs i).toInt64 <<< ((32 : Int32).toInt64 &&& 63)) ||| ((xs (i + 1)).toInt64 &&& 4294967295) : Int64)); unfold scrJ; omega⟩
theorem scrI_v (xs : Nat → Int32) (i b : Nat) : am_c b (vI (scrI xs i)) = .int (xs i) := by rw [am_cI]; unfold scrI; rw [Int32.ofInt_toInt]
theorem scrJ_v (xs : Nat → Int32) (i b : Nat) : am_c b (vL (scrJ xs i)) = .long (((xs i).toInt64 <<< ((32 : Int32).toInt64 &&& 63)) ||| ((xs (i + 1)).toInt64 &&& 4294967295)) := by rw [am_cL]; unfold scrJ; rw [Int64.ofInt_toInt]
/-- 'aload_0, arraylength' -/
theorem lx_len {x : am_X} {sb L : Nat} {xs : Nat → Int32} {cc : ByteArray} {own : String} {n mc ms : Nat} (hC : am_C x cc own n mc ms) (hX : lx_S x sb L xs) {pc k z : Nat} {h : am_H} {ls : List (Option Value)} {st : List Value} (d0 : decode cc pc = .ok (.aload_n 0, 1)) (d1 : decode cc (pc + 1) = .ok (.arraylength, 1)) (kk : lx_W x sb (pc + 1 + 1) k z h ls (vI (L : Int) :: st)) : lx_W x sb pc k z h ls st := by
  obtain ⟨p, l, e, R, s, m, args, below, meth, c, Q, g, nL⟩ := x
  obtain ⟨hx, hb, hml, hown, hts, hI, hlk, hR⟩ := hC
  obtain ⟨x1, x2, x3, x4⟩ := hX
  intro H locs la hH hS hL hz0
  refine lv_aload_n hx hb d0 rfl hz0 ?_
  exact va_slen hx hb x1 x2 x3 hS d1 (kk H locs la hH hS hL hz0)
/-- the script's int behind i -/
theorem lx_raw {x : am_X} {sb L : Nat} {xs : Nat → Int32} {cc : ByteArray} {own : String} {n mc ms : Nat} (hC : am_C x cc own n mc ms) (hX : lx_S x sb L xs) {pc k z : Nat} {h : am_H} {y0 y1 y2 y3 : Option Value} {tl : List (Option Value)} {st : List Value} {i : Nat} (d0 : decode cc pc = .ok (.aload_n 0, 1)) (d1 : decode cc (pc + 1) = .ok (.iload 4, 2)) (d3 : decode cc (pc + 1 + 2) = .ok (.iaload, 1)) (hi : i < L) (kk : lx_W x sb (pc + 1 + 2 + 1) k z h (y0 :: y1 :: y2 :: y3 :: some (vI (i : Int)) :: tl) (vI (scrI xs i) :: st)) : lx_W x sb pc k z h (y0 :: y1 :: y2 :: y3 :: some (vI (i : Int)) :: tl) st := by
  obtain ⟨p, l, e, R, s, m, args, below, meth, c, Q, g, nL⟩ := x
  obtain ⟨hx, hb, hml, hown, hts, hI, hlk, hR⟩ := hC
  obtain ⟨x1, x2, x3, x4⟩ := hX
  intro H locs la hH hS hL hz0
  refine lv_aload_n hx hb d0 rfl hz0 ?_
  refine lv_iload hx hb d1 (hL.2.2 4 _ rfl) ?_
  refine va_sld hx hb x1 x2 x3 hS (am_in32 (N := L) (by omega) (by omega)) d3 ?_
  rw [am_cl32 (by omega), Int.toNat_natCast]
  have h1 := kk H locs la hH hS hL hz0
  rw [List.map_cons, scrI_v] at h1
  exact h1
theorem lx_int {x : am_X} {sb L : Nat} {xs : Nat → Int32} {cc : ByteArray} {own : String} {n mc ms : Nat} (hC : am_C x cc own n mc ms) (hX : lx_S x sb L xs) {pc k z : Nat} {h : am_H} {y0 y1 y2 y3 : Option Value} {tl : List (Option Value)} {st : List Value} {i : Nat} (j : Nat) (d0 : decode cc pc = .ok (.aload_n 0, 1)) (d1 : decode cc (pc + 1) = .ok (.iload 4, 2)) (d2 : decode cc (pc + 1 + 2) = .ok (.iconst (j : Int), 1)) (d3 : decode cc (pc + 1 + 2 + 1) = .ok (.iadd, 1)) (d4 : decode cc (pc + 1 + 2 + 1 + 1) = .ok (.iaload, 1)) (hi : i + j < L) (kk : lx_W x sb (pc + 1 + 2 + 1 + 1 + 1) k z h (y0 :: y1 :: y2 :: y3 :: some (vI (i : Int)) :: tl) (vI (scrI xs (i + j)) :: st)) : lx_W x sb pc k z h (y0 :: y1 :: y2 :: y3 :: some (vI (i : Int)) :: tl) st := by
  obtain ⟨p, l, e, R, s, m, args, below, meth, c, Q, g, nL⟩ := x
  obtain ⟨hx, hb, hml, hown, hts, hI, hlk, hR⟩ := hC
  obtain ⟨x1, x2, x3, x4⟩ := hX
  intro H locs la hH hS hL hz0
  refine lv_aload_n hx hb d0 rfl hz0 ?_
  refine lv_iload hx hb d1 (hL.2.2 4 _ rfl) ?_
  refine lv_iconst hx hb d2 rfl ?_
  refine lv_iadd hx hb d3 ?_
  rw [← Int32.ofInt_add, ← Int.natCast_add]
  refine va_sld hx hb x1 x2 x3 hS (am_in32 (N := L) (by omega) (by omega)) d4 ?_
  rw [am_cl32 (by omega), Int.toNat_natCast]
  have h1 := kk H locs la hH hS hL hz0
  rw [List.map_cons, scrI_v] at h1
  exact h1
/-- two ints as a long: 22 bytes -/
theorem lx_long {x : am_X} {sb L : Nat} {xs : Nat → Int32} {cc : ByteArray} {own : String} {n mc ms : Nat} (hC : am_C x cc own n mc ms) (hX : lx_S x sb L xs) {pc k z ix : Nat} {h : am_H} {y0 y1 y2 y3 : Option Value} {tl : List (Option Value)} {st : List Value} {i : Nat} (j : Nat) (hw : Cond.constantLong own ix 4294967295 ∈ am_ws) (d0 : decode cc pc = .ok (.aload_n 0, 1)) (d1 : decode cc (pc + 1) = .ok (.iload 4, 2)) (d2 : decode cc (pc + 3) = .ok (.iconst (j : Int), 1)) (d3 : decode cc (pc + 4) = .ok (.iadd, 1)) (d4 : decode cc (pc + 5) = .ok (.iaload, 1))
    (d5 : decode cc (pc + 6) = .ok (.i2l, 1)) (d6 : decode cc (pc + 7) = .ok (.bipush 32, 2)) (d7 : decode cc (pc + 9) = .ok (.lshl, 1)) (a0 : decode cc (pc + 10) = .ok (.aload_n 0, 1)) (a1 : decode cc (pc + 11) = .ok (.iload 4, 2)) (a2 : decode cc (pc + 13) = .ok (.iconst ((j + 1 : Nat) : Int), 1)) (a3 : decode cc (pc + 14) = .ok (.iadd, 1)) (a4 : decode cc (pc + 15) = .ok (.iaload, 1)) (a5 : decode cc (pc + 16) = .ok (.i2l, 1)) (a6 : decode cc (pc + 17) = .ok (.ldc2_w ix, 3)) (a7 : decode cc (pc + 20) = .ok (.land, 1)) (a8 : decode cc (pc + 21) = .ok (.lor, 1))
    (hi : i + j + 1 < L) (kk : lx_W x sb (pc + 22) k z h (y0 :: y1 :: y2 :: y3 :: some (vI (i : Int)) :: tl) (vL (scrJ xs (i + j)) :: st)) : lx_W x sb pc k z h (y0 :: y1 :: y2 :: y3 :: some (vI (i : Int)) :: tl) st := by
  obtain ⟨p, l, e, R, s, m, args, below, meth, c, Q, g, nL⟩ := x
  obtain ⟨hx, hb, hml, hown, hts, hI, hlk, hR⟩ := hC
  obtain ⟨x1, x2, x3, x4⟩ := hX
  intro H locs la hH hS hL hz0
  refine lv_aload_n hx hb d0 rfl hz0 ?_
  refine lv_iload hx hb d1 (hL.2.2 4 _ rfl) ?_
  refine lv_iconst hx hb d2 rfl ?_
  refine lv_iadd hx hb d3 ?_
  rw [← Int32.ofInt_add, ← Int.natCast_add]
  refine va_sld hx hb x1 x2 x3 hS (am_in32 (N := L) (by omega) (by omega)) d4 ?_
  rw [am_cl32 (by omega), Int.toNat_natCast]
  refine lv_i2l hx hb d5 rfl ?_
  refine lv_bipush hx hb d6 (v := (32 : Int32)) rfl ?_
  refine lv_lshl hx hb d7 rfl ?_
  refine lv_aload_n hx hb a0 rfl hz0 ?_
  refine lv_iload hx hb a1 (hL.2.2 4 _ rfl) ?_
  refine lv_iconst hx hb a2 rfl ?_
  refine lv_iadd hx hb a3 ?_
  rw [← Int32.ofInt_add, ← Int.natCast_add]
  refine va_sld hx hb x1 x2 x3 hS (am_in32 (N := L) (by omega) (by omega)) a4 ?_
  rw [am_cl32 (by omega), Int.toNat_natCast]
  refine lv_i2l hx hb a5 rfl ?_
  refine lv_ldc2 hx hb hown (hts _ hw) a6 ?_
  refine lv_land hx hb a7 ?_
  refine lv_lor hx hb a8 ?_
  have h1 := kk H locs la hH hS hL hz0
  rw [List.map_cons, scrJ_v] at h1
  exact h1
/-! tableswitch -/
theorem lx_tabIn {x : am_X} {sb : Nat} {cc : ByteArray} {own : String} {n mc ms : Nat} (hC : am_C x cc own n mc ms) {pc k z : Nat} {h : am_H} {ls : List (Option Value)} {st : List Value} {v dflt hi off : Int} {offs : Array Int} {len : Nat} (q tgt : Nat) (d : decode cc pc = .ok (.tableswitch dflt 0 hi offs, len)) (hv : v = (q : Int)) (hq : (q : Int) ≤ hi ∧ q < 1000) (ho : offs[q]? = some off) (ht : (pc : Int) + off = (tgt : Int)) (kk : lx_W x sb tgt k z h ls st) : lx_W x sb pc k z h ls (vI v :: st) := by
  obtain ⟨p, l, e, R, s, m, args, below, meth, c, Q, g, nL⟩ := x
  obtain ⟨hx, hb, hml, hown, hts, hI, hlk, hR⟩ := hC
  intro H locs la hH hS hL hz0
  subst hv
  have t := am_t32 (a := (q : Int)) (by omega)
  exact lv_tableIn hx hb (x := Int32.ofInt (q : Int)) d (by rw [t]; omega) (by rw [t]; omega) (by rw [t, Int.sub_zero, Int.toNat_natCast]; exact ho) ht (kk H locs la hH hS hL hz0)
theorem lx_tabOut {x : am_X} {sb : Nat} {cc : ByteArray} {own : String} {n mc ms : Nat} (hC : am_C x cc own n mc ms) {pc k z : Nat} {h : am_H} {ls : List (Option Value)} {st : List Value} {v dflt hi : Int} {offs : Array Int} {len : Nat} (tgt : Nat) (d : decode cc pc = .ok (.tableswitch dflt 0 hi offs, len)) (hv : hi < v ∧ v < 1000) (hi0 : 0 ≤ hi) (ht : (pc : Int) + dflt = (tgt : Int)) (kk : lx_W x sb tgt k z h ls st) : lx_W x sb pc k z h ls (vI v :: st) := by
  obtain ⟨p, l, e, R, s, m, args, below, meth, c, Q, g, nL⟩ := x
  obtain ⟨hx, hb, hml, hown, hts, hI, hlk, hR⟩ := hC
  intro H locs la hH hS hL hz0
  have t := am_t32 (a := v) (by omega)
  exact lv_tableOut hx hb (x := Int32.ofInt v) d (by rw [t]; omega) ht (kk H locs la hH hS hL hz0)
theorem vL_wrap (v : Int) : ∃ u : Int, (-9223372036854775808 ≤ u ∧ u ≤ 9223372036854775807) ∧ vL v = vL u :=
  ⟨(Int64.ofInt v).toInt, ⟨by have := Int64.le_toInt (Int64.ofInt v); omega, by have := Int64.toInt_lt (Int64.ofInt v); omega⟩, by unfold vL; rw [Int64.ofInt_toInt]⟩


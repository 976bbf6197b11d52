/-! THE CLAIM OUT OF ONE WALK OF THE LAW'S BODY. Your part is whole_start (and what it stands on); all else here is the same for every law, but numbers. -/
def R_law : String := "KerfFractionsLaw"
def lw_P (b : Addr) (xs : List Int32) (args : Array Value) (s : State) : Prop := args = #[.ref b] ∧ s.IntsAt b xs ∧ xs.length ≤ 320 ∧ (Jvm.Cond.and given_1 narrow_1).before args s = true
def lw_Q (_ : Array Value) (s : State) (o : Outcome) (t : State) : Prop := o = .returned (some (.int 1)) ∧ Framed s o t [] 600384 7289322
def lw_Z (below : List Frame) (a : Array Value) (s : State) : State → Prop := fun t => ∃ o, t.status = .running ∧ Ended t below o ∧ lw_Q a s o t
/-- the law's own end, with 1 on the stack, nothing written that was there before, its room as the claim has it -/
theorem lw_ret {p : Program} {l : Launch} {e : Env} {s : State} {m : MethodId} {below : List Frame} {meth : Method} {c : Code} {b : Nat} (hx : p.tables.exec = Jvm.exec) (hb : c.code = code) (hr : meth.sig.returnType = ret) (hlocks : meth.locks = false) {pc : Nat} {H : Heap} {ls : Array Slot} (hdg : decode code pc = .ok (.ireturn, 1)) : W p l e room_1 s m #[Value.ref b] below meth c H [] 600384 7289322 (lw_Z below #[Value.ref b] s) (F0 m pc ls [.int 1]) := by
  intro T hT X
  obtain ⟨fs, hret, hrun, hended, hW, hframe⟩ := X.leave (v := some (.int 1)) (hlocks := hlocks) (fun h => by rw [hr] at h; cases h)
  have hmeth' : T.vm.method? m = some meth := X.method'
  refine ⟨T.setFrames fs, ?_, .returned (some (.int 1)), hrun, hended, rfl, ⟨_, rfl⟩, hW, hframe⟩
  jvm_step X.here [X.here.top, hx, hb, hdg, hmeth', hr, ret, narrow_b1]
  (try refine ⟨rfl, ?_⟩); (try refine ⟨rfl, ?_⟩)
  first | (intro acts; rw [hret _ acts rfl rfl rfl]) | rw [hret _ _ rfl rfl rfl]
  exact Steps.refl _
/-- what holds at the law's entry: the machine, the code, the tables' words (any of lw_tbl by 'hts w (by decide +kernel)'), the script of L ints xs at the cell b, what the Statement gives of the start (any of its parts by flat_of_before) -/
def lw_At (p : Program) (s : State) (m : MethodId) (meth : Method) (c : Code) (b L : Nat) (xs : Nat → Int32) : Prop :=
  p.tables.exec = Jvm.exec ∧ c.code = code ∧ meth.sig.returnType = ret ∧ c.maxLocals = 8 ∧ s.vm.findClass R_law = some m.cls ∧ (∀ w ∈ lw_tbl, w.before #[Value.ref b] s = true) ∧ va_X b L xs s s.heap ∧ b < s.heap.size ∧ meth.locks = false ∧ (Jvm.Cond.and given_1 narrow_1).before #[Value.ref b] s = true
/-! the start: what the abstract machine takes as given -/
theorem lx_room {p : Program} {l : Launch} {e : Env} {R R' : Room} {s : State} {m : MethodId} {args : Array Value} {below : List Frame} {meth : Method} {c : Code} {H : Heap} {locs : List Loc} {cells slots : Nat} {Q : State → Prop} {f : JFrame} (h1 : R'.frames ≤ R.frames) (h2 : R'.locals ≤ R.locals) (h3 : R'.cells ≤ R.cells) (h4 : R'.slots ≤ R.slots)
    (k : W p l e R' s m args below meth c H locs cells slots Q f) : W p l e R s m args below meth c H locs cells slots Q f := by
  intro T hT X
  refine k T hT ⟨X.admits, X.cas, X.clock, X.frames, ?_, X.hears, X.method, X.code, X.here, X.tail, X.warmed, X.limits, X.bytes, X.same⟩
  have h := X.room
  simp only [State.hasRoom, Bool.and_eq_true, decide_eq_true_eq] at h ⊢
  obtain ⟨⟨⟨⟨a1, a2, a3, a4, a5, a6⟩, a7⟩, a8⟩, a9⟩ := h
  exact ⟨⟨⟨⟨by omega, by omega, by omega, by omega, by omega, a6⟩, by omega⟩, by omega⟩, a9⟩
theorem lx_ret {p : Program} {l : Launch} {e : Env} {R : Room} {s : State} {m : MethodId} {below : List Frame} {meth : Method} {c : Code} {b : Nat} (hx : p.tables.exec = Jvm.exec) (hb : c.code = code) (hr : meth.sig.returnType = ret) (hlocks : meth.locks = false) {pc : Nat} {H : Heap} {ls : Array Slot} (hdg : decode code pc = .ok (.ireturn, 1)) : W p l e R s m #[Value.ref b] below meth c H [] 600384 7289322 (lw_Z below #[Value.ref b] s) (F0 m pc ls [.int 1]) := by
  intro T hT X
  obtain ⟨fs, hret, hrun, hended, hW, hframe⟩ := X.leave (v := some (.int 1)) (hlocks := hlocks) (fun h => by rw [hr] at h; cases h)
  have hmeth' : T.vm.method? m = some meth := X.method'
  refine ⟨T.setFrames fs, ?_, .returned (some (.int 1)), hrun, hended, rfl, ⟨_, rfl⟩, hW, hframe⟩
  jvm_step X.here [X.here.top, hx, hb, hdg, hmeth', hr, ret, narrow_b1]
  (try refine ⟨rfl, ?_⟩); (try refine ⟨rfl, ?_⟩)
  first | (intro acts; rw [hret _ acts rfl rfl rfl]) | rw [hret _ _ rfl rfl rfl]
  exact Steps.refl _
theorem st_arr {args : Array Value} {s : State} {ty : FieldType} (h : (Cond.arrayClass ty).before args s = true) : ∃ cA : ClassId, ArrOfT s cA ty ∧ s.vm.findClass ("[" ++ ty.toString) = some cA := by
  obtain ⟨cA, kA, comp, h1, h2, h3⟩ := Cond.arrayClass_spec h
  exact ⟨cA, fun n z => ⟨fun k q => (by cases q), kA, h2, comp, h3⟩, h1⟩
theorem st_arrO {args : Array Value} {s : State} {n : String} (h : (Cond.arrayOver (.object n)).before args s = true) : ∃ cA : ClassId, ArrOfT s cA (.object n) ∧ va_RA s cA (.object n) := by
  obtain ⟨comp, cA, kA, hcomp, hidx, hkA, hkindA, hnameA⟩ := Cond.arrayOver_spec h
  exact ⟨cA, fun N z => ⟨(fun k q => by cases q), kA, hkA, comp, hkindA⟩, kA, comp, hkA, hkindA, hcomp, hnameA⟩
abbrev st_U : Term := .static "KerfFractions" "UNIT_LENGTHS" "[J"
set_option maxRecDepth 100000 in
theorem st_tab {b : Nat} {s : State} (hs : ∀ c ∈ flatC (Jvm.Cond.and given_1 narrow_1), c.before #[Value.ref b] s = true) : ∀ j : Nat, j < 6 → (Term.elem st_U (.int (Int32.ofNat j))).eval #[Value.ref b] s none [] s = some (.long (Int64.ofInt (am_tab j))) := by
  intro j hj
  match j, hj with
  | 0, _ => rw [show Int64.ofInt (am_tab 0) = 3 by decide +kernel]; exact va_eqtl (hs (.eq (.elem st_U (.int 0)) (.long 3)) (by decide +kernel))
  | 1, _ => rw [show Int64.ofInt (am_tab 1) = 300 by decide +kernel]; exact va_eqtl (hs (.eq (.elem st_U (.int 1)) (.long 300)) (by decide +kernel))
  | 2, _ => rw [show Int64.ofInt (am_tab 2) = 300000 by decide +kernel]; exact va_eqtl (hs (.eq (.elem st_U (.int 2)) (.long 300000)) (by decide +kernel))
  | 3, _ => rw [show Int64.ofInt (am_tab 3) = 7620 by decide +kernel]; exact va_eqtl (hs (.eq (.elem st_U (.int 3)) (.long 7620)) (by decide +kernel))
  | 4, _ => rw [show Int64.ofInt (am_tab 4) = 91440 by decide +kernel]; exact va_eqtl (hs (.eq (.elem st_U (.int 4)) (.long 91440)) (by decide +kernel))
  | 5, _ => rw [show Int64.ofInt (am_tab 5) = 635 by decide +kernel]; exact va_eqtl (hs (.eq (.elem st_U (.int 5)) (.long 635)) (by decide +kernel))
  | j + 6, h => omega
theorem st_I {b : Nat} {s : State} (hts : ∀ w ∈ lw_tbl, w.before #[Value.ref b] s = true) (hgv : (Jvm.Cond.and given_1 narrow_1).before #[Value.ref b] s = true) : ∃ (D : va_G) (c1 c2 c3 : Nat), am_I (s.heap.size, D, (c1, c2, c3)) s := by
  have hs := flat_of_before _ hgv
  have hin : ∀ (ci : Nat) (q : vw_C), am_cl[ci]? = some q → ∀ w ∈ u_ws q.1 q.2.1 q.2.2, w ∈ lw_tbl := fun ci q hq w hw => (List.mem_filter.mp (am_cl_in ci q hq w hw)).1
  obtain ⟨k0, i0, n0⟩ := u_known (C := RX0) (T := TX0) (N := 3) (n := 3) hts (hin 0 _ rfl) (hts (.instantiable RX0 3) (List.mem_of_getElem? (i := 137) (by decide +kernel)))
  obtain ⟨k1, i1, n1⟩ := u_known (C := RX1) (T := TX1) (N := 3) (n := 3) hts (hin 1 _ rfl) (hts (.instantiable RX1 3) (List.mem_of_getElem? (i := 67) (by decide +kernel)))
  obtain ⟨k2, i2, n2⟩ := u_known (C := RX2) (T := TX2) (N := 7) (n := 7) hts (hin 2 _ rfl) (hts (.instantiable RX2 7) (List.mem_of_getElem? (i := 159) (by decide +kernel)))
  obtain ⟨k3, i3, n3⟩ := u_known (C := RX3) (T := TX3) (N := 2) (n := 2) hts (hin 3 _ rfl) (hts (.instantiable RX3 2) (List.mem_of_getElem? (i := 72) (by decide +kernel)))
  obtain ⟨k4, i4, n4⟩ := u_known (C := RX4) (T := TX4) (N := 15) (n := 15) hts (hin 4 _ rfl) (hts (.instantiable RX4 15) (List.mem_of_getElem? (i := 58) (by decide +kernel)))
  obtain ⟨k5, i5, n5⟩ := u_known (C := RX5) (T := TX5) (N := 11) (n := 11) hts (hin 5 _ rfl) (hts (.instantiable RX5 11) (List.mem_of_getElem? (i := 634) (by decide +kernel)))
  obtain ⟨c1, a1, r1⟩ := st_arr (hts (.arrayClass .int) (List.mem_of_getElem? (i := 157) (by decide +kernel)))
  obtain ⟨c2, a2, r2⟩ := st_arr (hts (.arrayClass .long) (List.mem_of_getElem? (i := 89) (by decide +kernel)))
  obtain ⟨c3, a3, r3⟩ := st_arrO (n := RX1) (hts (.arrayOver (.object RX1)) (List.mem_of_getElem? (i := 66) (by decide +kernel)))
  refine ⟨(fun k => match k with | 0 => k0 | 1 => k1 | 2 => k2 | 3 => k3 | 4 => k4 | _ => k5, fun k => match k with | 0 => i0 | 1 => i1 | 2 => i2 | 3 => i3 | 4 => i4 | _ => i5), c1, c2, c3, ?_⟩
  have hA : ∀ (G : am_G), G.1 = s.heap.size → ∀ a : Nat, a < s.heap.size → ¬ am_A G a := fun G hG a ha q => by
    have h1 : G.1 ≤ a := q
    omega
  have hlays : (Cond.laysStatic RX4 "UNIT_LENGTHS" "[J").before #[Value.ref b] s = true := hts _ (List.mem_of_getElem? (i := 572) (by decide +kernel))
  have hini : (Cond.initialized RX4).before #[Value.ref b] s = true := hts _ (List.mem_of_getElem? (i := 40) (by decide +kernel))
  obtain ⟨cK, kK, hfc, -⟩ := Cond.instantiable_spec (hts (.instantiable RX4 15) (List.mem_of_getElem? (i := 58) (by decide +kernel)))
  refine ⟨⟨?_, ?_⟩, ?_, ?_, ?_, ?_, ?_, ?_, ⟨?_, ?_, ?_⟩, ?_, ?_, Nat.le_refl _⟩
  · intro ci q hq
    match ci, hq with
    | 0, hq => cases hq; exact n0
    | 1, hq => cases hq; exact n1
    | 2, hq => cases hq; exact n2
    | 3, hq => cases hq; exact n3
    | 4, hq => cases hq; exact n4
    | 5, hq => cases hq; exact n5
    | ci + 6, hq => simp at hq
  · intro k q hq
    match k, hq with
    | 0, hq => cases hq; exact ⟨a1, r1⟩
    | 1, hq => cases hq; exact ⟨a2, r2⟩
    | 2, hq => cases hq; exact ⟨a3, r3⟩
    | k + 3, hq => simp [am_ty] at hq
  · exact vx_Zqof (hts (.laysStatic Bundle.tN "UNASSIGNED_STACK" Bundle.steD) (List.mem_of_getElem? (i := 263) (by decide +kernel))) (hts (.initialized Bundle.tN) (List.mem_of_getElem? (i := 47) (by decide +kernel))) (hs (.isRef (.static Bundle.tN "UNASSIGNED_STACK" Bundle.steD)) (by decide +kernel)) (hA _ rfl)
  · exact vx_Zqof (hts (.laysStatic Bundle.tN "SUPPRESSED_SENTINEL" Bundle.listD) (List.mem_of_getElem? (i := 265) (by decide +kernel))) (hts (.initialized Bundle.tN) (List.mem_of_getElem? (i := 47) (by decide +kernel))) (hs (.isRef (.static Bundle.tN "SUPPRESSED_SENTINEL" Bundle.listD)) (by decide +kernel)) (hA _ rfl)
  · obtain ⟨t, ht, hT⟩ := va_Tof (tm := st_U) (ty := .long) (N := 6) (f := fun j => .long (Int64.ofInt (am_tab j))) (by decide) (hs (.arrayOf st_U .long) (by decide +kernel)) (va_eqt (hs (.eq (.length st_U) (.int 6)) (by decide +kernel))) (st_tab hs) (hA (s.heap.size, (fun _ => 0, fun _ _ => 0), (c1, c2, c3)) rfl)
    exact ⟨t, va_Zref hlays hini ht (hA _ rfl), hT⟩
  · exact fun a i b' n d q hm => va_Nw.of rfl (hts _ hm)
  · exact fun a i y q hm => va_Nw.of rfl (hts _ hm)
  · exact va_AO.of (hts (.arrayOver (.object RX1)) (List.mem_of_getElem? (i := 66) (by decide +kernel)))
  · exact va_Nc.of (hs (.not (.castable am_ARE am_AIO)) (by decide +kernel))
  · exact va_Nc.of (hs (.not (.castable am_IAE am_AIO)) (by decide +kernel))
  · exact va_Nc.of (hs (.not (.castable am_ARE am_IAE)) (by decide +kernel))
  · intro a tx hm
    have h := hts _ hm
    obtain ⟨k, cf, i, a', -, -, -, -, -, hev⟩ := Cond.stringRef_spec hfc h
    exact ⟨a', vk_R.of h hev⟩
  · intro w hm ho
    refine va_Nw.of ?_ (hts _ hm)
    unfold am_odd at ho
    split at ho <;> first | rfl | cases ho

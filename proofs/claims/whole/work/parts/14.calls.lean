theorem am_wid {x : am_X} {cc : ByteArray} {own : String} {n mc ms : Nat} (hC : am_C x cc own n mc ms) {pc k z : Nat} {h : am_H} {ls : List (Option Value)} {st : List Value} {k2 z2 : Nat} (hk : k ≤ k2) (hz : z ≤ z2) (kk : am_W x pc k2 z2 h ls st) : am_W x pc k z h ls st := by
  obtain ⟨p, l, e, R, s, m, args, below, meth, c, Q, g, nL⟩ := x
  obtain ⟨hx, hb, hml, hown, hts, hI, hlk, hR⟩ := hC
  intro H locs la hH hS hL
  exact W.widen hk hz (kk H locs la hH hS hL)
theorem am_catsum (b : Nat) (st : List Value) : ((st.map (am_c b)).map fun v => v.category).sum = (st.map fun v => v.category).sum := by
  rw [List.map_map]; congr 2; funext v; exact am_cat _ _
theorem am_monoQ {p : Program} {l : Launch} {e : Env} {R : Room} {s : State} {m : MethodId} {args : Array Value} {below : List Frame} {meth : Method} {c : Code} {H : Heap} {locs : List Loc} {cells slots : Nat} {Q Q2 : State → Prop} {f : JFrame} (hq : ∀ t, Q2 t → Q t) (h : W p l e R s m args below meth c H locs cells slots Q2 f) : W p l e R s m args below meth c H locs cells slots Q f := by
  intro T hT X
  obtain ⟨t, a, b⟩ := h T hT X
  exact ⟨t, a, hq t b⟩
/-! returns -/

theorem am_iret {x : am_X} {cc : ByteArray} {own : String} {n mc ms : Nat} (hC : am_C x cc own n mc ms) {pc k z : Nat} {h : am_H} {ls : List (Option Value)} {v : Int} {R0 : Option Value → am_H → Prop} (hT : am_T x (some .int) R0 mc ms) (d : decode cc pc = .ok (.ireturn, 1)) (hk : k ≤ mc) (hz : z ≤ ms) (hr : R0 (some (vI v)) h) : am_W x pc k z h ls [vI v] := by
  obtain ⟨p, l, e, R, s, m, args, below, meth, c, Q, g, nL⟩ := x
  obtain ⟨hx, hb, hml, hown, hts, hI, hlk, hR⟩ := hC
  obtain ⟨hrt, hQ⟩ := hT
  intro H locs la hH hS hL
  refine W.widen hk hz (am_monoQ hQ ?_)
  exact W.iret hx hb hrt (fun t ht hW => ⟨⟨some (vI v), h, rfl, hr, by rw [ht]; exact hH⟩, hS.F ht⟩) hS.2.2 d hlk

theorem am_zret {x : am_X} {cc : ByteArray} {own : String} {n mc ms : Nat} (hC : am_C x cc own n mc ms) {pc k z : Nat} {h : am_H} {ls : List (Option Value)} {v : Int} {R0 : Option Value → am_H → Prop} (hT : am_T x (some .boolean) R0 mc ms) (d : decode cc pc = .ok (.ireturn, 1)) (hv : v = 0 ∨ v = 1) (hk : k ≤ mc) (hz : z ≤ ms) (hr : R0 (some (vI v)) h) : am_W x pc k z h ls [vI v] := by
  obtain ⟨p, l, e, R, s, m, args, below, meth, c, Q, g, nL⟩ := x
  obtain ⟨hx, hb, hml, hown, hts, hI, hlk, hR⟩ := hC
  obtain ⟨hrt, hQ⟩ := hT
  intro H locs la hH hS hL
  refine W.widen hk hz (am_monoQ hQ ?_)
  exact W.zret hx hb hrt (by rcases hv with rfl | rfl <;> rfl) (fun t ht hW => ⟨⟨some (vI v), h, rfl, hr, by rw [ht]; exact hH⟩, hS.F ht⟩) hS.2.2 d hlk

theorem am_lret {x : am_X} {cc : ByteArray} {own : String} {n mc ms : Nat} (hC : am_C x cc own n mc ms) {pc k z : Nat} {h : am_H} {ls : List (Option Value)} {v : Int} {R0 : Option Value → am_H → Prop} (hT : am_T x (some .long) R0 mc ms) (d : decode cc pc = .ok (.lreturn, 1)) (hk : k ≤ mc) (hz : z ≤ ms) (hr : R0 (some (vL v)) h) : am_W x pc k z h ls [vL v] := by
  obtain ⟨p, l, e, R, s, m, args, below, meth, c, Q, g, nL⟩ := x
  obtain ⟨hx, hb, hml, hown, hts, hI, hlk, hR⟩ := hC
  obtain ⟨hrt, hQ⟩ := hT
  intro H locs la hH hS hL
  refine W.widen hk hz (am_monoQ hQ ?_)
  exact W.lret hx hb hrt (fun t ht hW => ⟨⟨some (vL v), h, rfl, hr, by rw [ht]; exact hH⟩, hS.F ht⟩) hS.2.2 d hlk

theorem am_vret {x : am_X} {cc : ByteArray} {own : String} {n mc ms : Nat} (hC : am_C x cc own n mc ms) {pc k z : Nat} {h : am_H} {ls : List (Option Value)} {R0 : Option Value → am_H → Prop} (hT : am_T x none R0 mc ms) (d : decode cc pc = .ok (.return_, 1)) (hk : k ≤ mc) (hz : z ≤ ms) (hr : R0 none h) : am_W x pc k z h ls [] := by
  obtain ⟨p, l, e, R, s, m, args, below, meth, c, Q, g, nL⟩ := x
  obtain ⟨hx, hb, hml, hown, hts, hI, hlk, hR⟩ := hC
  obtain ⟨hrt, hQ⟩ := hT
  intro H locs la hH hS hL
  refine W.widen hk hz (am_monoQ hQ ?_)
  exact W.vret hx hb hrt (fun t ht hW => ⟨⟨none, h, rfl, hr, by rw [ht]; exact hH⟩, hS.F ht⟩) hS.2.2 d hlk
theorem am_aret {x : am_X} {cc : ByteArray} {own : String} {n mc ms : Nat} (hC : am_C x cc own n mc ms) {pc k z : Nat} {h : am_H} {ls : List (Option Value)} {i : Nat} {C : String} {R0 : Option Value → am_H → Prop} (hT : am_T x (some (.object C)) R0 mc ms) (d : decode cc pc = .ok (.areturn, 1)) (hk : k ≤ mc) (hz : z ≤ ms) (hr : R0 (some (.ref i)) h) : am_W x pc k z h ls [.ref i] := by
  obtain ⟨p, l, e, R, s, m, args, below, meth, c, Q, g, nL⟩ := x
  obtain ⟨hx, hb, hml, hown, hts, hI, hlk, hR⟩ := hC
  obtain ⟨hrt, hQ⟩ := hT
  intro H locs la hH hS hL
  refine W.widen hk hz (am_monoQ hQ ?_)
  exact W.aret hx hb hrt (Or.inl ⟨_, rfl⟩) (Or.inr ⟨_, rfl⟩) (fun t ht hW => ⟨⟨some (.ref i), h, rfl, hr, by rw [ht]; exact hH⟩, hS.F ht⟩) hS.2.2 d hlk
/-! calls -/
theorem am_pre {s U : State} {g : am_G} {h : am_H} {H : Heap} {locs : List Loc} {vs : List Value} (hI : am_I g s) (hH : am_R g h H) (hS : va_S (am_A g) s.heap H locs) (hU : U.heap = H) (hW : s.WarmedH U.vm) : am_Pc g vs h (vs.map (am_c g.1)).toArray U :=
  ⟨rfl, hI.moved hW (by rw [hU]; exact hS.1) (fun q h1 h2 => by rw [hU]; exact hS.2.1 q h1 h2), by rw [hU]; exact hH⟩
theorem am_after {x : am_X} {p : Program} {l : Launch} {e : Env} {R : Room} {s : State} {m : MethodId} {args : Array Value} {below : List Frame} {meth : Method} {c : Code} {Q : State → Prop} {g : am_G} {nL : Nat} {H : Heap} {locs : List Loc} {k z mc2 ms2 pc : Nat} {la : Array Slot} {st0 rest : List Value} {ls : List (Option Value)} {a : Array Value} {R1 : Option Value → am_H → Prop}
    (hS : va_S (am_A g) s.heap H locs) (hL : am_L g.1 nL ls la) (hr : va_Run p l e R s m args below meth c H locs k z mc2 ms2 (F0 m pc la st0) (rest.map (am_c g.1)) (am_Q g R1 a) (am_A g))
    (kk : ∀ (r : Option Value) (h1 : am_H), R1 r h1 → am_W (p, l, e, R, s, m, args, below, meth, c, Q, g, nL) (pc + 3) (k + mc2) (z + ms2) h1 ls (r.toList ++ rest)) : W p l e R s m args below meth c H locs k z Q (F0 m pc la st0) := by
  intro T hT X
  obtain ⟨v, st₀, t, T', L, h0, X', hL1, e1, e2, ⟨⟨r, h1, hv, hp, hb⟩, hz, hk⟩, st⟩ := hr T hT X
  cases hv
  rw [h0] at hz hk
  have hS1 : va_S (am_A g) s.heap T'.heap (locs ++ L) := ⟨Nat.le_trans hS.1 (by rw [e1]; exact hz), fun q h1 h2 => by rw [e1, hk q (Nat.lt_of_lt_of_le h1 hS.1) h2]; exact hS.2.1 q h1 h2, fun q hq => by
      rcases List.mem_append.mp hq with h | h
      · exact hS.2.2 q h
      · exact hL1 q h⟩
  have e9 : (r.map (am_c g.1)).toList ++ rest.map (am_c g.1) = (r.toList ++ rest).map (am_c g.1) := by cases r <;> simp
  obtain ⟨t2, a1, b1⟩ := kk r h1 hp T'.heap (locs ++ L) la (by rw [e1]; exact hb) hS1 hL T' rfl X'
  rw [← e9] at a1
  exact ⟨t2, st t2 a1, b1⟩

theorem am_callV {x : am_X} {cc : ByteArray} {own : String} {n mc ms : Nat} (hC : am_C x cc own n mc ms) {pc k z : Nat} {h : am_H} {ls : List (Option Value)} {st : List Value} {idx n2 mc2 ms2 maxL na : Nat} {y : MethodName} {cc2 : ByteArray} {R1 : Option Value → am_H → Prop} {ret : Option FieldType} {i ci : Nat} {fs vs sk : List Value} (d : decode cc pc = .ok (.invokevirtual idx, 3)) (hK : am_KV own idx y cc2 maxL ret na) (hM : am_Met (am_l x) (am_g x) y (am_W1 y cc2 maxL ret) n2 mc2 ms2 (.ref i :: vs) h R1) (hsk : sk = vs.reverse ++ .ref i :: st)
    (ho : h.2 i = some (eO ci fs)) (hq : (am_cl[ci]?).map (·.1) = some y.cls) (hna : vs.length = na) (hst : (st.map fun v => v.category).sum ≤ 8) (hn : n2 + 1 ≤ n) (hc : k + mc2 ≤ mc) (hs : z + ms2 ≤ ms)
    (kk : ∀ (r : Option Value) (h1 : am_H), R1 r h1 → am_W x (pc + 3) (k + mc2) (z + ms2) h1 ls (r.toList ++ st)) : am_W x pc k z h ls sk := by
  obtain ⟨p, l, e, R, s, m, args, below, meth, c, Q, g, nL⟩ := x
  obtain ⟨hx, hb, hml, hown, hts, hI, hlk, hR⟩ := hC
  obtain ⟨⟨k1, k2, k3, k4⟩, k5, k6, k7⟩ := hK
  intro H locs la hH hS hL
  subst hR
  subst hsk
  obtain ⟨q, hq1, hq2⟩ := Option.map_eq_some_iff.mp hq
  have cw := cwV (args := args) (s := s) (R := am_rm n mc ms) (own := own) (C := y.cls) (index := idx) (y := y) (bytes := cc2) (maxL := maxL) (ret := ret) (Ts := am_ws) (ws := am_W1 y cc2 maxL ret) (rm := am_rm n2 mc2 ms2) na hts (goodIn_app (fun w hw => by
      have hm : w ∈ am_ws := by
        simp only [List.mem_cons, List.not_mem_nil, or_false] at hw
        rcases hw with rfl | rfl | rfl | rfl <;> assumption
      exact ⟨hm, good_of_word (am_ws_good w hm)⟩) (am_good1 k2)) rfl rfl rfl ⟨rfl, k3.1, k3.2.1, k3.2.2⟩ ⟨hn, by show 8 + (maxL + 11) + 70 * n2 ≤ 70 * n; omega⟩
  have hrun := va_runV (e := e) (meth := meth) (below := below) (As := vs.map (am_c g.1)) (rest := st.map (am_c g.1)) (b := g.1 + i) (H := H) (locs := locs) (cells := k) (slots := z) (g := F0 m pc la ((vs.reverse ++ .ref i :: st).map (am_c g.1))) ⟨hx, hb, hml, hown, hts⟩ hM cw ⟨am_blind g _ h, by
      have := va_recv hI.1 (hH.one ho) hq1 (q0 := 0) rfl
      rw [hq2] at this
      exact this, fun U hU hW => am_pre (vs := .ref i :: vs) hI hH hS hU hW⟩ rfl (by rw [List.length_map]; exact hna) hL.1.1 (by rw [List.map_append, List.map_reverse]; rfl) (lv_room (by rw [am_catsum]; exact hst)) d ⟨hc, hs⟩
  exact am_after (x := (p, l, e, am_rm n mc ms, s, m, args, below, meth, c, Q, g, nL)) hS hL hrun kk
theorem am_callS {x : am_X} {cc : ByteArray} {own : String} {n mc ms : Nat} (hC : am_C x cc own n mc ms) {pc k z : Nat} {h : am_H} {ls : List (Option Value)} {st : List Value} {idx n2 mc2 ms2 maxL na : Nat} {y : MethodName} {cc2 : ByteArray} {R1 : Option Value → am_H → Prop} {ret : Option FieldType} {vs sk : List Value} (d : decode cc pc = .ok (.invokestatic idx, 3)) (hK : am_KS own idx y cc2 maxL ret na) (hM : am_Met (am_l x) (am_g x) y (am_W1 y cc2 maxL ret) n2 mc2 ms2 vs h R1) (hsk : sk = vs.reverse ++ st)
    (hna : vs.length = na) (hst : (st.map fun v => v.category).sum ≤ 8) (hn : n2 + 1 ≤ n) (hc : k + mc2 ≤ mc) (hs : z + ms2 ≤ ms)
    (kk : ∀ (r : Option Value) (h1 : am_H), R1 r h1 → am_W x (pc + 3) (k + mc2) (z + ms2) h1 ls (r.toList ++ st)) : am_W x pc k z h ls sk := by
  obtain ⟨p, l, e, R, s, m, args, below, meth, c, Q, g, nL⟩ := x
  obtain ⟨hx, hb, hml, hown, hts, hI, hlk, hR⟩ := hC
  obtain ⟨⟨k1, k2, k3, k4⟩, k5, k6⟩ := hK
  intro H locs la hH hS hL
  subst hR
  subst hsk
  have cw := va_cwS (args := args) (s := s) (R := am_rm n mc ms) (own := own) (index := idx) (y := y) (bytes := cc2) (maxL := maxL) (ret := ret) (Ts := am_ws) (ws := am_W1 y cc2 maxL ret) (rm := am_rm n2 mc2 ms2) na hts (goodIn_app (fun w hw => by
      have hm : w ∈ am_ws := by
        simp only [List.mem_cons, List.not_mem_nil, or_false] at hw
        rcases hw with rfl | rfl | rfl <;> assumption
      exact ⟨hm, good_of_word (am_ws_good w hm)⟩) (am_good1 k2)) rfl rfl rfl k3 ⟨hn, by show 8 + (maxL + 11) + 70 * n2 ≤ 70 * n; omega⟩
  have hrun := va_runS (e := e) (meth := meth) (below := below) (As := vs.map (am_c g.1)) (rest := st.map (am_c g.1)) (H := H) (locs := locs) (cells := k) (slots := z) (g := F0 m pc la ((vs.reverse ++ st).map (am_c g.1))) ⟨hx, hb, hml, hown, hts⟩ hM cw ⟨am_blind g _ h, fun U hU hW => am_pre (vs := vs) hI hH hS hU hW⟩ rfl (by rw [List.length_map]; exact hna) hL.1.1 (by rw [List.map_append, List.map_reverse]) (lv_room (by rw [am_catsum]; exact hst)) d ⟨hc, hs⟩
  exact am_after (x := (p, l, e, am_rm n mc ms, s, m, args, below, meth, c, Q, g, nL)) hS hL hrun kk
theorem am_callI {x : am_X} {cc : ByteArray} {own : String} {n mc ms : Nat} (hC : am_C x cc own n mc ms) {pc k z : Nat} {h : am_H} {ls : List (Option Value)} {st : List Value} {idx n2 mc2 ms2 maxL na : Nat} {y : MethodName} {cc2 : ByteArray} {R1 : Option Value → am_H → Prop} {i : Nat} {vs sk : List Value} (d : decode cc pc = .ok (.invokespecial idx, 3)) (hK : am_KI own idx y cc2 maxL na) (hM : am_Met (am_l x) (am_g x) y (am_W1 y cc2 maxL none) n2 mc2 ms2 (.ref i :: vs) h R1) (hsk : sk = vs.reverse ++ .ref i :: st)
    (hna : vs.length = na) (hst : (st.map fun v => v.category).sum ≤ 8) (hn : n2 + 1 ≤ n) (hc : k + mc2 ≤ mc) (hs : z + ms2 ≤ ms)
    (kk : ∀ (r : Option Value) (h1 : am_H), R1 r h1 → am_W x (pc + 3) (k + mc2) (z + ms2) h1 ls (r.toList ++ st)) : am_W x pc k z h ls sk := by
  obtain ⟨p, l, e, R, s, m, args, below, meth, c, Q, g, nL⟩ := x
  obtain ⟨hx, hb, hml, hown, hts, hI, hlk, hR⟩ := hC
  obtain ⟨⟨k1, k2, k3, k4⟩, k5, k6, k7⟩ := hK
  intro H locs la hH hS hL
  subst hR
  subst hsk
  rcases k7 with k7 | ⟨host, k7⟩
  · have cw := cwI (args := args) (s := s) (R := am_rm n mc ms) (own := own) (index := idx) (y := y) (bytes := cc2) (maxL := maxL) (Ts := am_ws) (ws := am_W1 y cc2 maxL none) (rm := am_rm n2 mc2 ms2) na hts (am_good1 k2) rfl rfl rfl (hts _ k1) (hts _ k7) (hts _ k6) k5 k3 ⟨hn, by show 8 + (maxL + 11) + 70 * n2 ≤ 70 * n; omega⟩
    have hrun := va_runI (e := e) (meth := meth) (below := below) (As := vs.map (am_c g.1)) (b := g.1 + i) (rest := st.map (am_c g.1)) (H := H) (locs := locs) (cells := k) (slots := z) (g := F0 m pc la ((vs.reverse ++ .ref i :: st).map (am_c g.1))) ⟨hx, hb, hml, hown, hts⟩ hM cw ⟨am_blind g _ h, fun U hU hW => am_pre (vs := .ref i :: vs) hI hH hS hU hW⟩ rfl (by rw [List.length_map]; exact hna) hL.1.1 (by rw [List.map_append, List.map_reverse]; rfl) (lv_room (by rw [am_catsum]; exact hst)) d ⟨hc, hs⟩
    exact am_after (x := (p, l, e, am_rm n mc ms, s, m, args, below, meth, c, Q, g, nL)) hS hL hrun kk
  · have cw := va_cnB (args := args) (s := s) (R := am_rm n mc ms) (own := own) (host := host) (index := idx) (y := y) (bytes := cc2) (maxL := maxL) (ret := none) (Ts := am_ws) (ws := am_W1 y cc2 maxL none) (rm := am_rm n2 mc2 ms2) na hts (am_good1 k2) rfl rfl rfl (hI.2.2.2.2.2.1 _ _ _ _ k7) (hts _ k1) k3 ⟨hn, by show 8 + (maxL + 11) + 70 * n2 ≤ 70 * n; omega⟩
    have hrun := va_runIN (e := e) (meth := meth) (below := below) (As := vs.map (am_c g.1)) (b := g.1 + i) (rest := st.map (am_c g.1)) (H := H) (locs := locs) (cells := k) (slots := z) (g := F0 m pc la ((vs.reverse ++ .ref i :: st).map (am_c g.1))) ⟨hx, hb, hml, hown, hts⟩ hM ⟨cw, k5, hts _ k6⟩ ⟨am_blind g _ h, fun U hU hW => am_pre (vs := .ref i :: vs) hI hH hS hU hW⟩ rfl (by rw [List.length_map]; exact hna) hL.1.1 (by rw [List.map_append, List.map_reverse]; rfl) (lv_room (by rw [am_catsum]; exact hst)) d ⟨hc, hs⟩
    exact am_after (x := (p, l, e, am_rm n mc ms, s, m, args, below, meth, c, Q, g, nL)) hS hL hrun kk

/-! throws -/
theorem am_throw {x : am_X} {cc : ByteArray} {own : String} {n mc ms : Nat} (hC : am_C x cc own n mc ms) {pc k z : Nat} {h : am_H} {ls : List (Option Value)} {st : List Value} {ik is ic : Nat} {E text : String} {names : List String} {X : String → am_H → Prop} (hTX : am_TX x X mc ms) (hK : am_KT own ik is ic E text names)
    (d0 : decode cc pc = .ok (.new ik, 3)) (d3 : decode cc (pc + 3) = .ok (.dup, 1)) (d4 : decode cc (pc + 4) = .ok (.ldc is, 2)) (d6 : decode cc (pc + 6) = .ok (.invokespecial ic, 3)) (d9 : decode cc (pc + 9) = .ok (.athrow, 1))
    (hn : names.length + 3 < n) (hst : (st.map fun v => v.category).sum ≤ 8) (hc : k + 1 ≤ mc) (hs : z + 6 ≤ ms) (hX : ∀ n1 : Nat, h.1 ≤ n1 → X E (n1, h.2)) : am_W x pc k z h ls st := by
  obtain ⟨p, l, e, R, s, m, args, below, meth, c, Q, g, nL⟩ := x
  obtain ⟨hx, hb, hml, hown, hts, hI, hlk, hR⟩ := hC
  obtain ⟨hl, htab, R0, hQ⟩ := hTX
  intro H locs la hH hS hL
  subst hR
  subst hQ
  obtain ⟨⟨t1, t2, t3, t4, t5, t7, t9⟩, t6⟩ := hK
  obtain ⟨sa, hsa⟩ := hI.2.2.2.2.2.2.2.2.1 _ _ t6
  rw [← t5] at hsa
  refine vx_throwS (XC := am_XC g X) hx hb hl hown t1 t2 (hts _ t3) (hts _ t4) hsa (fun w hw => ?_) t9 hI.2.1 hI.2.2.1 hS (by rw [hml]; exact hL.1.1) d0 d3 d4 d6 d9 (fun y hy => (htab y hy).elim) hn ?_ hc hs hlk (fun t hv hz hq => ?_) hS.2.2 hc hs
  · rcases t7 w hw with q | q
    · exact hts w q
    · have h0 := hI.2.2.2.2.2.2.2.2.2.1 w q.1 q.2
      refine va_tabs ?_ rfl h0
      have h1 := q.2
      unfold am_odd at h1
      split at h1 <;> first | rfl | cases h1
  · show _ ≤ 70 * n
    rw [am_catsum]
    omega
  · have hzz : H.size ≤ t.heap.size := hz
    have hb1 := hH.1
    refine ⟨⟨(t.heap.size - g.1, h.2), hX _ (by omega), hH.grow _ (by omega) hq⟩, Nat.le_trans hS.1 hz, fun q h1 h2 => ?_⟩
    rw [hq q (Nat.lt_of_lt_of_le h1 hS.1)]
    exact hS.2.1 q h1 h2
/-- a callee that may throw: what it throws goes on to the caller -/
theorem am_afterX {p : Program} {l : Launch} {e : Env} {R : Room} {s : State} {m : MethodId} {args : Array Value} {below : List Frame} {meth : Method} {c : Code} {Q : State → Prop} {g : am_G} {nL : Nat} {H : Heap} {locs : List Loc} {k z mc ms mc2 ms2 pc : Nat} {la : Array Slot} {st0 rest : List Value} {ls : List (Option Value)} {a : Array Value} {R0 R1 : Option Value → am_H → Prop} {X X1 : String → am_H → Prop}
    (hS : va_S (am_A g) s.heap H locs) (hL : am_L g.1 nL ls la) (hlk : meth.locks = false) (htab : ∀ y ∈ c.exceptionTable.toList, False) (hQ : Q = vx_MQ below (am_Q g R0) (am_XC g X) args s mc ms (am_A g)) (hc : k + mc2 ≤ mc) (hs : z + ms2 ≤ ms) (hX : ∀ E h1, X1 E h1 → X E h1)
    (hr : vx_Run p l e R s m args below meth c H locs k z mc2 ms2 (F0 m pc la st0) (rest.map (am_c g.1)) (am_Q g R1 a) (am_XC g X1) (am_A g))
    (kk : ∀ (r : Option Value) (h1 : am_H), R1 r h1 → am_W (p, l, e, R, s, m, args, below, meth, c, Q, g, nL) (pc + 3) (k + mc2) (z + ms2) h1 ls (r.toList ++ rest)) : W p l e R s m args below meth c H locs k z Q (F0 m pc la st0) := by
  intro T hT X0
  have keep : ∀ {st₀ t T' : State} {L : List Loc}, st₀.heap = H → T'.heap = t.heap → (∀ q ∈ L, am_A g q.base) → va_F (am_A g) st₀ t → va_S (am_A g) s.heap T'.heap (locs ++ L) := by
    intro st₀ t T' L h0 e1 hL1 hF
    obtain ⟨hz, hk⟩ := hF
    rw [h0] at hz hk
    exact ⟨Nat.le_trans hS.1 (by rw [e1]; exact hz), fun q h1 h2 => by rw [e1, hk q (Nat.lt_of_lt_of_le h1 hS.1) h2]; exact hS.2.1 q h1 h2, fun q hq => by
      rcases List.mem_append.mp hq with h | h
      · exact hS.2.2 q h
      · exact hL1 q h⟩
  rcases hr T hT X0 with ⟨v, st₀, t, T', L, h0, X', hL1, e1, e2, ⟨⟨r, h1, hv, hp, hb⟩, hF⟩, st⟩ | ⟨q, st₀, t, T', L, E, ce, h0, X', hL1, e1, e2, ⟨⟨h1, hp, hb⟩, hF⟩, hce, hcv, hcl, st⟩
  · cases hv
    have e9 : (r.map (am_c g.1)).toList ++ rest.map (am_c g.1) = (r.toList ++ rest).map (am_c g.1) := by cases r <;> simp
    obtain ⟨t2, a1, b1⟩ := kk r h1 hp T'.heap (locs ++ L) la (by rw [e1]; exact hb) (keep h0 e1 hL1 hF) hL T' rfl X'
    rw [← e9] at a1
    exact ⟨t2, st t2 a1, b1⟩
  · subst hQ
    have hS1 := keep h0 e1 hL1 hF
    obtain ⟨t2, a1, b1⟩ := vx_out (Qc := am_Q g R0) (XC := am_XC g X) (rest := rest.map (am_c g.1)) (ls := la) (pc := pc) (H := T'.heap) (fun y hy => (htab y hy).elim) hlk (by rw [e1]; exact hce) hcv hcl (fun t9 ht9 hv9 => ⟨⟨h1, hX _ _ hp, by rw [ht9, e1]; exact hb⟩, hS1.F ht9⟩) hS1.2.2 hc hs T' rfl X'
    exact ⟨t2, st.trans a1, b1⟩
theorem am_xcallV {x : am_X} {cc : ByteArray} {own : String} {n mc ms : Nat} (hC : am_C x cc own n mc ms) {pc k z : Nat} {h : am_H} {ls : List (Option Value)} {st : List Value} {idx n2 mc2 ms2 maxL na : Nat} {y : MethodName} {cc2 : ByteArray} {R1 : Option Value → am_H → Prop} {ret : Option FieldType} {X X1 : String → am_H → Prop} {i ci : Nat} {fs vs sk : List Value} (hTX : am_TX x X mc ms) (d : decode cc pc = .ok (.invokevirtual idx, 3)) (hK : am_KV own idx y cc2 maxL ret na) (hM : am_MetX (am_l x) (am_g x) y (am_W1 y cc2 maxL ret) n2 mc2 ms2 (.ref i :: vs) h R1 X1) (hsk : sk = vs.reverse ++ .ref i :: st)
    (ho : h.2 i = some (eO ci fs)) (hq : (am_cl[ci]?).map (·.1) = some y.cls) (hna : vs.length = na) (hst : (st.map fun v => v.category).sum ≤ 8) (hn : n2 + 1 ≤ n) (hc : k + mc2 ≤ mc) (hs : z + ms2 ≤ ms) (hX : ∀ E h1, X1 E h1 → X E h1)
    (kk : ∀ (r : Option Value) (h1 : am_H), R1 r h1 → am_W x (pc + 3) (k + mc2) (z + ms2) h1 ls (r.toList ++ st)) : am_W x pc k z h ls sk := by
  obtain ⟨p, l, e, R, s, m, args, below, meth, c, Q, g, nL⟩ := x
  obtain ⟨hx, hb, hml, hown, hts, hI, hlk, hR⟩ := hC
  obtain ⟨⟨k1, k2, k3, k4⟩, k5, k6, k7⟩ := hK
  obtain ⟨hl, htab, R0, hQ⟩ := hTX
  intro H locs la hH hS hL
  subst hR
  subst hsk
  obtain ⟨q, hq1, hq2⟩ := Option.map_eq_some_iff.mp hq
  have cw := cwV (args := args) (s := s) (R := am_rm n mc ms) (own := own) (C := y.cls) (index := idx) (y := y) (bytes := cc2) (maxL := maxL) (ret := ret) (Ts := am_ws) (ws := am_W1 y cc2 maxL ret) (rm := am_rm n2 mc2 ms2) na hts (goodIn_app (fun w hw => by
      have hm : w ∈ am_ws := by
        simp only [List.mem_cons, List.not_mem_nil, or_false] at hw
        rcases hw with rfl | rfl | rfl | rfl <;> assumption
      exact ⟨hm, good_of_word (am_ws_good w hm)⟩) (am_good1 k2)) rfl rfl rfl ⟨rfl, k3.1, k3.2.1, k3.2.2⟩ ⟨hn, by show 8 + (maxL + 11) + 70 * n2 ≤ 70 * n; omega⟩
  have hrun := vx_runV (e := e) (meth := meth) (below := below) (As := vs.map (am_c g.1)) (rest := st.map (am_c g.1)) (b := g.1 + i) (H := H) (locs := locs) (cells := k) (slots := z) (g := F0 m pc la ((vs.reverse ++ .ref i :: st).map (am_c g.1))) ⟨hx, hb, hml, hown, hts⟩ hM cw ⟨am_blind g _ h, by
      have := va_recv hI.1 (hH.one ho) hq1 (q0 := 0) rfl
      rw [hq2] at this
      exact this, fun U hU hW => am_pre (vs := .ref i :: vs) hI hH hS hU hW⟩ rfl (by rw [List.length_map]; exact hna) hL.1.1 (by rw [List.map_append, List.map_reverse]; rfl) (lv_room (by rw [am_catsum]; exact hst)) d ⟨hc, hs⟩
  exact am_afterX hS hL hlk htab hQ hc hs hX hrun kk
theorem am_xcallS {x : am_X} {cc : ByteArray} {own : String} {n mc ms : Nat} (hC : am_C x cc own n mc ms) {pc k z : Nat} {h : am_H} {ls : List (Option Value)} {st : List Value} {idx n2 mc2 ms2 maxL na : Nat} {y : MethodName} {cc2 : ByteArray} {R1 : Option Value → am_H → Prop} {ret : Option FieldType} {X X1 : String → am_H → Prop} {vs sk : List Value} (hTX : am_TX x X mc ms) (d : decode cc pc = .ok (.invokestatic idx, 3)) (hK : am_KS own idx y cc2 maxL ret na) (hM : am_MetX (am_l x) (am_g x) y (am_W1 y cc2 maxL ret) n2 mc2 ms2 vs h R1 X1) (hsk : sk = vs.reverse ++ st)
    (hna : vs.length = na) (hst : (st.map fun v => v.category).sum ≤ 8) (hn : n2 + 1 ≤ n) (hc : k + mc2 ≤ mc) (hs : z + ms2 ≤ ms) (hX : ∀ E h1, X1 E h1 → X E h1)
    (kk : ∀ (r : Option Value) (h1 : am_H), R1 r h1 → am_W x (pc + 3) (k + mc2) (z + ms2) h1 ls (r.toList ++ st)) : am_W x pc k z h ls sk := by
  obtain ⟨p, l, e, R, s, m, args, below, meth, c, Q, g, nL⟩ := x
  obtain ⟨hx, hb, hml, hown, hts, hI, hlk, hR⟩ := hC
  obtain ⟨⟨k1, k2, k3, k4⟩, k5, k6⟩ := hK
  obtain ⟨hl, htab, R0, hQ⟩ := hTX
  intro H locs la hH hS hL
  subst hR
  subst hsk
  have cw := va_cwS (args := args) (s := s) (R := am_rm n mc ms) (own := own) (index := idx) (y := y) (bytes := cc2) (maxL := maxL) (ret := ret) (Ts := am_ws) (ws := am_W1 y cc2 maxL ret) (rm := am_rm n2 mc2 ms2) na hts (goodIn_app (fun w hw => by
      have hm : w ∈ am_ws := by
        simp only [List.mem_cons, List.not_mem_nil, or_false] at hw
        rcases hw with rfl | rfl | rfl <;> assumption
      exact ⟨hm, good_of_word (am_ws_good w hm)⟩) (am_good1 k2)) rfl rfl rfl k3 ⟨hn, by show 8 + (maxL + 11) + 70 * n2 ≤ 70 * n; omega⟩
  have hrun := vx_runS (e := e) (meth := meth) (below := below) (As := vs.map (am_c g.1)) (rest := st.map (am_c g.1)) (H := H) (locs := locs) (cells := k) (slots := z) (g := F0 m pc la ((vs.reverse ++ st).map (am_c g.1))) ⟨hx, hb, hml, hown, hts⟩ hM cw ⟨am_blind g _ h, fun U hU hW => am_pre (vs := vs) hI hH hS hU hW⟩ rfl (by rw [List.length_map]; exact hna) hL.1.1 (by rw [List.map_append, List.map_reverse]) (lv_room (by rw [am_catsum]; exact hst)) d ⟨hc, hs⟩
  exact am_afterX hS hL hlk htab hQ hc hs hX hrun kk


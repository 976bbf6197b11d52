/-! methods that catch: their table, their calls -/
abbrev am_n (x : am_X) : Nat := x.2.2.2.2.2.2.2.2.2.2.2.2
def am_HT (x : am_X) (hh : List (Nat × Nat × Nat × Nat)) : Prop := x.2.2.2.2.2.2.2.2.2.1.exceptionTable.toList = tableOf hh
def am_nc (E nm : String) : Prop := (E = am_ARE ∧ nm = am_AIO) ∨ (E = am_IAE ∧ nm = am_AIO) ∨ (E = am_ARE ∧ nm = am_IAE)
theorem am_nc.at {E nm : String} {g : am_G} {U : State} (h : am_nc E nm) (hI : am_I g U) : va_Nc E nm U := by
  have q := hI.2.2.2.2.2.2.2.1
  rcases h with ⟨rfl, rfl⟩ | ⟨rfl, rfl⟩ | ⟨rfl, rfl⟩
  · exact q.1
  · exact q.2.1
  · exact q.2.2
/-- a handler: it stores what was thrown, and answers v -/
def am_Hd (cc : ByteArray) (nL t : Nat) (v : Int) : Prop :=
  (∃ j, j < nL ∧ decode cc t = .ok (.astore j, 2) ∧ decode cc (t + 2) = .ok (.iconst v, 1) ∧ decode cc (t + 2 + 1) = .ok (.ireturn, 1)) ∨
  (3 < nL ∧ decode cc t = .ok (.astore_n 3, 1) ∧ decode cc (t + 1) = .ok (.iconst v, 1) ∧ decode cc (t + 1 + 1) = .ok (.ireturn, 1))
def am_Ca (own : String) (cc : ByteArray) (nL pc : Nat) (hh : List (Nat × Nat × Nat × Nat)) (E : String) (v : Int) : Prop :=
  ∃ (pre : List (Nat × Nat × Nat × Nat)) (q : Nat × Nat × Nat × Nat) (suf : List (Nat × Nat × Nat × Nat)), hh = pre ++ q :: suf ∧ (∀ r ∈ pre, r.2.2.2 ≠ 0 ∧ ∃ nm : String, Cond.classLink own r.2.2.2 nm ∈ am_ws ∧ am_nc E nm) ∧
    covers ⟨q.1, q.2.1, q.2.2.1, q.2.2.2⟩ pc = true ∧ q.2.2.2 ≠ 0 ∧ Cond.classLink own q.2.2.2 E ∈ am_ws ∧ Cond.castable E E ∈ lw_tbl ∧ am_Hd cc nL q.2.2.1 v
theorem am_ofWH {l : Launch} {y : MethodName} {ws ws' : List Cond} {rm : Room} {Pc : Array Value → State → Prop} {Qc : Array Value → State → Outcome → State → Prop} {mc ms : Nat} {free : Addr → Prop} {cc : ByteArray} {maxL : Nat} {ret : Option FieldType} {hh : List (Nat × Nat × Nat × Nat)}
    (hy : plainName y.cls = true) (hw : ws = Cond.codeWith y cc maxL ret hh :: ws')
    (body : ∀ p e s m args below meth c s₁, BodyLoose p l y (headSpec ws rm) cc maxL ret e s m args below meth c s₁ → c.maxLocals = maxL → Pc args s →
      W p l e (headSpec ws rm).room s m args below meth c s.heap [] 0 0 (MQ below Qc args s mc ms free) (entryFrame m args maxL)) : Met l y ws rm Pc Qc mc ms free := by
  refine MetFree.of_bodyS (code := cc) (maxLocals := maxL) (ret := ret) hy ?_ ?_
  · intro args s m h hn
    obtain ⟨m9, meth, c, hn9, h1, h2, h3, h4, -, h5, h6, -⟩ := Cond.codeWith_spec (atoms_spec (ws := ws) h _ (by rw [hw]; exact List.mem_cons_self))
    cases hn.symm.trans hn9
    exact ⟨meth, c, h1, h2, h3, h4, h5, h6⟩
  · intro p e s m args below meth c s₁ B hml hP _
    have hh0 : s₁.heap = s.heap := by rw [B.state]; rfl
    obtain ⟨t, a1, o, b1, b2, b3⟩ := body p e s m args below meth c s₁ B hml hP s₁ hh0 (Stand.of_body B)
    exact ⟨t, o, a1, b1, b2, ⟨b3.1, b3.2⟩⟩
theorem am_mkH {l : Launch} {g : am_G} {y : MethodName} {cc : ByteArray} {maxL : Nat} {ret : Option FieldType} {hh : List (Nat × Nat × Nat × Nat)} {n mc ms : Nat} {vs : List Value} {h : am_H} {R : Option Value → am_H → Prop} (ls : List (Option Value)) (j : Nat) (hls : am_ent vs ++ List.replicate j none = ls) (hl : ls.length = maxL) (hy : plainName y.cls = true)
    (body : ∀ x : am_X, am_l x = l → am_g x = g → am_n x = maxL → am_C x cc y.cls n mc ms → am_T x ret R mc ms → am_HT x hh → am_W x 0 0 0 h ls []) : am_Met l g y (am_WH y cc maxL ret hh) n mc ms vs h R := by
  refine am_ofWH (cc := cc) (maxL := maxL) (ret := ret) (hh := hh) hy rfl ?_
  intro p e s m args below meth c s₁ B hml hp
  obtain ⟨rfl, hI, hR⟩ := hp
  have hts := atoms_spec (ws := am_WH y cc maxL ret hh) B.pre
  have htab := vx_table (x := y) (hh := hh) B (hts _ List.mem_cons_self)
  have hW := body (p, l, e, am_rm n mc ms, s, m, (vs.map (am_c g.1)).toArray, below, meth, c, MQ below (am_Q g R) (vs.map (am_c g.1)).toArray s mc ms (am_A g), g, maxL) rfl rfl rfl
    ⟨B.exec, B.bytes, hml, findClass_of_methodNamed B.named, fun w hw => hts w (List.mem_cons_of_mem _ hw), hI, B.notSynchronized, rfl⟩ ⟨B.returns, fun _ q => q⟩ htab
  have h2 := hW s.heap [] _ hR va_S.rf (am_entry vs ls (by rw [← hl, ← hls, List.length_append, am_ent_len]; omega) hl (fun i v hi => by
    rw [← hls] at hi
    have := am_ent_in vs j 0 i v hi
    rw [Nat.zero_add] at this
    exact this))
  rw [lg_entry_eq]
  exact h2
/-- a call of a method that may throw, out of one that catches all of it -/
theorem am_tryV {x : am_X} {cc : ByteArray} {own : String} {n mc ms : Nat} (hC : am_C x cc own n mc ms) {hh : List (Nat × Nat × Nat × Nat)} (hH0 : am_HT x hh) {pc k z : Nat} {h : am_H} {ls : List (Option Value)} {st : List Value} {idx n2 mc2 ms2 maxL na : Nat} {y : MethodName} {cc2 : ByteArray} {R0 R1 : Option Value → am_H → Prop} {ret : Option FieldType} {X1 : String → am_H → Prop} {i ci : Nat} {fs vs sk : List Value} (hT0 : am_T x (some .int) R0 mc ms) (d : decode cc pc = .ok (.invokevirtual idx, 3)) (hK : am_KV own idx y cc2 maxL ret na) (hM : am_MetX (am_l x) (am_g x) y (am_W1 y cc2 maxL ret) n2 mc2 ms2 (.ref i :: vs) h R1 X1) (hsk : sk = vs.reverse ++ .ref i :: st)
    (ho : h.2 i = some (eO ci fs)) (hq : (am_cl[ci]?).map (·.1) = some y.cls) (hna : vs.length = na) (hst : (st.map fun v => v.category).sum ≤ 8) (hn : n2 + 1 ≤ n) (hc : k + mc2 ≤ mc) (hs : z + ms2 ≤ ms)
    (hX : ∀ E h1, X1 E h1 → ∃ v : Int, am_Ca own cc (am_n x) pc hh E v ∧ R0 (some (vI v)) h1)
    (kk : ∀ (r : Option Value) (h1 : am_H), R1 r h1 → am_W x (pc + 3) (k + mc2) (z + ms2) h1 ls (r.toList ++ st)) : am_W x pc k z h ls sk := by
  obtain ⟨p, l, e, R, s, m, args, below, meth, c, Q, g, nL⟩ := x
  obtain ⟨hx, hb, hml, hown, hts, hI, hlk, hR⟩ := hC
  obtain ⟨⟨k1, k2, k3, k4⟩, k5, k6, k7⟩ := hK
  obtain ⟨hrt, hQ⟩ := hT0
  intro H locs la hH hS hL
  subst hR
  subst hsk
  obtain ⟨q, hq1, hq2⟩ := Option.map_eq_some_iff.mp hq
  have cw := cwV (args := args) (s := s) (R := am_rm n mc ms) (own := own) (C := y.cls) (index := idx) (y := y) (bytes := cc2) (maxL := maxL) (ret := ret) (Ts := am_ws) (ws := am_W1 y cc2 maxL ret) (rm := am_rm n2 mc2 ms2) na hts (goodIn_app (fun w hw => by
      have hm : w ∈ am_ws := by
        simp only [List.mem_cons, List.not_mem_nil, or_false] at hw
        rcases hw with rfl | rfl | rfl | rfl <;> assumption
      exact ⟨hm, good_of_word (am_ws_good w hm)⟩) (am_good1 k2)) rfl rfl rfl ⟨rfl, k3.1, k3.2.1, k3.2.2⟩ ⟨hn, by show 8 + (maxL + 11) + 70 * n2 ≤ 70 * n; omega⟩
  have hrun := vx_runV (e := e) (meth := meth) (below := below) (As := vs.map (am_c g.1)) (rest := st.map (am_c g.1)) (b := g.1 + i) (H := H) (locs := locs) (cells := k) (slots := z) (g := F0 m pc la ((vs.reverse ++ .ref i :: st).map (am_c g.1))) ⟨hx, hb, hml, hown, hts⟩ hM cw ⟨am_blind g _ h, by
      have := va_recv hI.1 (hH.one ho) hq1 (q0 := 0) rfl
      rw [hq2] at this
      exact this, fun U hU hW => am_pre (vs := .ref i :: vs) hI hH hS hU hW⟩ rfl (by rw [List.length_map]; exact hna) hL.1.1 (by rw [List.map_append, List.map_reverse]; rfl) (lv_room (by rw [am_catsum]; exact hst)) d ⟨hc, hs⟩
  intro T hT X0
  have keep : ∀ {st₀ t T' : State} {L : List Loc}, st₀.heap = H → T'.heap = t.heap → (∀ q ∈ L, am_A g q.base) → va_F (am_A g) st₀ t → va_S (am_A g) s.heap T'.heap (locs ++ L) := by
    intro st₀ t T' L h0 e1 hL1 hF
    obtain ⟨hz, hk⟩ := hF
    rw [h0] at hz hk
    exact ⟨Nat.le_trans hS.1 (by rw [e1]; exact hz), fun q h1 h2 => by rw [e1, hk q (Nat.lt_of_lt_of_le h1 hS.1) h2]; exact hS.2.1 q h1 h2, fun q hq => by
      rcases List.mem_append.mp hq with h | h
      · exact hS.2.2 q h
      · exact hL1 q h⟩
  rcases hrun T hT X0 with ⟨v, st₀, t, T', L, h0, X', hL1, e1, e2, ⟨⟨r, h1, hv, hp, hb1⟩, hF⟩, st1⟩ | ⟨q9, st₀, t, T', L, E, ce, h0, X', hL1, e1, e2, ⟨⟨h1, hp, hb1⟩, hF⟩, hce, hcv, hcl, st1⟩
  · cases hv
    have e9 : (r.map (am_c g.1)).toList ++ st.map (am_c g.1) = (r.toList ++ st).map (am_c g.1) := by cases r <;> simp
    obtain ⟨t2, a1, b1⟩ := kk r h1 hp T'.heap (locs ++ L) la (by rw [e1]; exact hb1) (keep h0 e1 hL1 hF) hL T' rfl X'
    rw [← e9] at a1
    exact ⟨t2, st1 t2 a1, b1⟩
  · have hS1 := keep h0 e1 hL1 hF
    obtain ⟨v, ⟨pre, q, suf, hh1, hpre, hcov, hct, hl1, hcast, hd⟩, hr⟩ := hX _ _ hp
    have hc1 : (Cond.castable E E).before args s = true := va_tabs rfl rfl (hI.2.2.2.2.2.2.2.2.2.1 _ hcast rfl)
    have hW : W p l e (am_rm n mc ms) s m args below meth c T'.heap (locs ++ L) (k + mc2) (z + ms2) Q (F0 m q.2.2.1 la [.ref q9]) := by
      rcases hd with ⟨j, hj, d1, d2, d3⟩ | ⟨hj, d1, d2, d3⟩
      · refine lv_astore (lv' := [(j, .ref q9)]) hx hb d1 hL.1 hj rfl (fun la' hl' => ?_)
        refine lv_iconst hx hb d2 rfl ?_
        refine W.widen hc hs (am_monoQ hQ ?_)
        exact W.iret hx hb hrt (fun t9 ht9 hW9 => ⟨⟨some (vI v), h1, rfl, hr, by rw [ht9, e1]; exact hb1⟩, hS1.F ht9⟩) hS1.2.2 d3 hlk
      · refine lv_astore_n (lv' := [(3, .ref q9)]) hx hb d1 rfl hL.1 hj rfl (fun la' hl' => ?_)
        refine lv_iconst hx hb d2 rfl ?_
        refine W.widen hc hs (am_monoQ hQ ?_)
        exact W.iret hx hb hrt (fun t9 ht9 hW9 => ⟨⟨some (vI v), h1, rfl, hr, by rw [ht9, e1]; exact hb1⟩, hS1.F ht9⟩) hS1.2.2 d3 hlk
    obtain ⟨t2, a1, b1⟩ := vx_catch (own := own) (name := E) (E := E) (rest := st.map (am_c g.1)) (ls := la) (pc := pc) (H := T'.heap) hown (tableOf pre) ⟨q.1, q.2.1, q.2.2.1, q.2.2.2⟩ (tableOf suf) (by
        have h8 : c.exceptionTable.toList = tableOf hh := hH0
        rw [h8, hh1]; simp [tableOf]) (fun y hy => by
        obtain ⟨r, hr1, rfl⟩ := List.mem_map.mp hy
        obtain ⟨z1, nm, z2, z3⟩ := hpre r hr1
        exact Or.inr ⟨z1, nm, hts _ z2, z3.at hI⟩) hcov hct (hts _ hl1) hc1 (by rw [e1]; exact hce) hcv hcl hW T' rfl X'
    exact ⟨t2, st1.trans a1, b1⟩
/-! the two answers of every call: code, state, value -/
noncomputable def cIf {α : Type} (p : Prop) (a b : α) : α := @ite α p (Classical.propDecidable p) a b
theorem cIf_y {α : Type} {p : Prop} {a b : α} (h : p) : cIf p a b = a := @if_pos p (Classical.propDecidable p) h α a b
theorem cIf_n {α : Type} {p : Prop} {a b : α} (h : ¬ p) : cIf p a b = b := @if_neg p (Classical.propDecidable p) h α a b
abbrev aA : Type := Int × aS × Int
abbrev K46 : List Nat := 50 :: K39
def wPL (h h1 : am_H) (q : aA) (k : Int) : Prop := k = q.1 ∧ kS h1 q.2.1 ∧ gx h h1 K46 ∧ ∃ f : Nat → Int, h1.2 50 = some (eL 1 f) ∧ (q.1 = 0 → f 0 = q.2.2)
def mPost (h h1 : am_H) (q : aA) (b : Int) : Prop := (q.1 = 0 → b = q.2.2) ∧ mOut h h1 q.1 q.2.1
theorem kS.on {h h1 : am_H} {s : aS} {S : List Nat} (w : kS h s) (o : gx h h1 S) (b : 43 ≤ h.1) (q : ∀ j ∈ S, 43 ≤ j ∧ j ≤ 50) : kS h1 s := by
  obtain ⟨w0, ⟨f, w1, wf⟩, w2, w3, wt⟩ := w
  have n : ∀ j, (j < 43 ∨ 50 < j) → j ∉ S := fun j hj c => by have := q j c; omega
  refine ⟨(o.2 0 (by omega) (n _ (by omega))).trans w0, ⟨f, (o.2 1 (by omega) (n _ (by omega))).trans w1, fun i hi => ?_⟩, (o.2 11 (by omega) (n _ (by omega))).trans w2, (o.2 12 (by omega) (n _ (by omega))).trans w3, wt.gx o (by omega) (fun j _ _ => n j (by omega))⟩
  obtain ⟨r, e, r1, r2, r3⟩ := wf i hi
  exact ⟨r, e, r1, Nat.lt_of_lt_of_le r2 o.1, r3.gx o r2 (fun j _ _ => n j (by omega))⟩
theorem eS.gx {h h1 : am_H} {s : aS} {th : Int} {wd : Nat} {R : Nat → Int} {S : List Nat} (w : eS h s th wd R) (o : gx h h1 S) (b : 50 ≤ h.1) (q : ∀ j ∈ S, j < 43 ∨ 49 < j) : eS h1 s th wd R := by
  have n : ∀ j, 43 ≤ j → j ≤ 49 → h1.2 j = h.2 j := fun j h1 h2 => o.2 j (by omega) (fun c => by have := q j c; omega)
  exact ⟨(n 43 (by omega) (by omega)).trans w.1, (n 44 (by omega) (by omega)).trans w.2.1, w.2.2.1, w.2.2.2.1.on (n 45 (by omega) (by omega)) (n 46 (by omega) (by omega)) (n 47 (by omega) (by omega)), (n 48 (by omega) (by omega)).trans w.2.2.2.2.1, (n 49 (by omega) (by omega)).trans w.2.2.2.2.2⟩
theorem K39_lt : ∀ j ∈ K39, j < 43 := fun _ h => List.mem_range.mp h
theorem wP_y {h h1 h2 : am_H} {s' : aS} {v : Int} {f : Nat → Int} {q : aA} (eq : q = (0, s', v)) (v1 : kS h1 s') (g1 : gx h h1 K39) (h47 : 51 ≤ h.1) (e2 : h2 = am_up h1 50 (eL 1 (am_fu f 0 v))) : wPL h h2 q 0 := by
  have G2 : gx h1 h2 [50] := by rw [e2]; exact gx_up _ _ _
  have N46 : h2.2 50 = some (eL 1 (am_fu f 0 v)) := by rw [e2]; exact am_up_at _ _ _
  have b1 := g1.1
  rw [eq]
  exact ⟨rfl, v1.on G2 (by omega) (fun j hj => by simp at hj; omega), (g1.wk (fun _ hq => List.mem_cons_of_mem _ hq)).tr (G2.wk (fun _ hq => by simp at hq; rw [hq]; exact List.mem_cons_self)), _, N46, fun _ => am_fu_at⟩
theorem wP_n {h h1 : am_H} {s : aS} {c : Int} {f : Nat → Int} {q : aA} (eq : q = (c, s, 0)) (hc : c ≠ 0) (v1 : kS h1 s) (g1 : gx h h1 K39) (h47 : 51 ≤ h.1) (ho : h.2 50 = some (eL 1 f)) : wPL h h1 q c := by
  rw [eq]
  exact ⟨rfl, v1, g1.wk (fun _ hq => List.mem_cons_of_mem _ hq), f, (g1.2 50 (by omega) (fun c => by have := K39_lt _ c; omega)).trans ho, fun c => absurd c hc⟩
theorem mP_y {h h1 : am_H} {s' : aS} {v b : Int} {q : aA} (eq : q = (0, s', v)) (e : b = v) (o : mOut h h1 0 s') : mPost h h1 q b := by
  rw [eq]; exact ⟨fun _ => e, o⟩
theorem mP_n {h h1 : am_H} {s : aS} {c b : Int} {q : aA} (eq : q = (c, s, 0)) (hc : c ≠ 0) (o : mOut h h1 c s) : mPost h h1 q b := by
  rw [eq]; exact ⟨fun x => absurd x hc, o⟩
def wPost (h h1 : am_H) (q : aA) (k : Int) : Prop := wPL h h1 q k ∧ (q.1 = 0 → IR q.2.2)
theorem am_tryVI {x : am_X} {cc : ByteArray} {own : String} {n mc ms : Nat} (hC : am_C x cc own n mc ms) {hh : List (Nat × Nat × Nat × Nat)} (hH0 : am_HT x hh) {pc k z : Nat} {h : am_H} {ls : List (Option Value)} {st : List Value} {idx n2 mc2 ms2 maxL na : Nat} {y : MethodName} {cc2 : ByteArray} {R0 : Option Value → am_H → Prop} {P : Int → am_H → Prop} {ret : Option FieldType} {X1 : String → am_H → Prop} {i : Nat} (ci : Nat) {fs vs sk : List Value} (hT0 : am_T x (some .int) R0 mc ms) (d : decode cc pc = .ok (.invokevirtual idx, 3)) (hK : am_KV own idx y cc2 maxL ret na) (hM : am_MetX (am_l x) (am_g x) y (am_W1 y cc2 maxL ret) n2 mc2 ms2 (.ref i :: vs) h (qI P) X1) (hsk : sk = vs.reverse ++ .ref i :: st)
    (ho : h.2 i = some (eO ci fs)) (hq : (am_cl[ci]?).map (·.1) = some y.cls) (hna : vs.length = na) (hst : (st.map fun v => v.category).sum ≤ 8) (hn : n2 + 1 ≤ n) (hc : k + mc2 ≤ mc) (hs : z + ms2 ≤ ms)
    (hX : ∀ E h1, X1 E h1 → ∃ v : Int, am_Ca own cc (am_n x) pc hh E v ∧ R0 (some (vI v)) h1)
    (kk : ∀ (v : Int) (h1 : am_H), P v h1 → am_W x (pc + 3) (k + mc2) (z + ms2) h1 ls (vI v :: st)) : am_W x pc k z h ls sk :=
  am_tryV hC hH0 hT0 d hK hM hsk ho hq hna hst hn hc hs hX (fun r h1 q => by obtain ⟨v, rfl, q⟩ := q; exact kk v h1 q)
theorem am_tryVL {x : am_X} {cc : ByteArray} {own : String} {n mc ms : Nat} (hC : am_C x cc own n mc ms) {hh : List (Nat × Nat × Nat × Nat)} (hH0 : am_HT x hh) {pc k z : Nat} {h : am_H} {ls : List (Option Value)} {st : List Value} {idx n2 mc2 ms2 maxL na : Nat} {y : MethodName} {cc2 : ByteArray} {R0 : Option Value → am_H → Prop} {P : Int → am_H → Prop} {ret : Option FieldType} {X1 : String → am_H → Prop} {i : Nat} (ci : Nat) {fs vs sk : List Value} (hT0 : am_T x (some .int) R0 mc ms) (d : decode cc pc = .ok (.invokevirtual idx, 3)) (hK : am_KV own idx y cc2 maxL ret na) (hM : am_MetX (am_l x) (am_g x) y (am_W1 y cc2 maxL ret) n2 mc2 ms2 (.ref i :: vs) h (qL P) X1) (hsk : sk = vs.reverse ++ .ref i :: st)
    (ho : h.2 i = some (eO ci fs)) (hq : (am_cl[ci]?).map (·.1) = some y.cls) (hna : vs.length = na) (hst : (st.map fun v => v.category).sum ≤ 8) (hn : n2 + 1 ≤ n) (hc : k + mc2 ≤ mc) (hs : z + ms2 ≤ ms)
    (hX : ∀ E h1, X1 E h1 → ∃ v : Int, am_Ca own cc (am_n x) pc hh E v ∧ R0 (some (vI v)) h1)
    (kk : ∀ (v : Int) (h1 : am_H), P v h1 → am_W x (pc + 3) (k + mc2) (z + ms2) h1 ls (vL v :: st)) : am_W x pc k z h ls sk :=
  am_tryV hC hH0 hT0 d hK hM hsk ho hq hna hst hn hc hs hX (fun r h1 q => by obtain ⟨v, rfl, q⟩ := q; exact kk v h1 q)
/-- what the words say of a call of a method that catches -/
def am_KSH (own : String) (idx : Nat) (y : MethodName) (cc : ByteArray) (maxL : Nat) (ret : Option FieldType) (hh : List (Nat × Nat × Nat × Nat)) (na : Nat) : Prop :=
  Cond.initialized y.cls ∈ am_ws ∧ Cond.codeWith y cc maxL ret hh ∈ am_ws ∧ (y.cls ≠ "java/lang/invoke/MethodHandle" ∧ y.cls ≠ "java/lang/invoke/VarHandle" ∧ (parseMethodDescriptor y.desc).map (fun d => d.parameters.length) = some na) ∧ maxL ≤ 50 ∧ Cond.methodLink own idx y ∈ am_ws ∧ Cond.static y ∈ am_ws
/-! ranges of what is answered -/
theorem rv_put {s : aS} {sd : Int} {a b : Nat} (h : s.1 ≤ 150) : IR (aPut s sd a b).1 := by
  by_cases q : 150 ≤ s.1 ∨ 800 < bl (a / Nat.gcd a b) ∨ 800 < bl (b / Nat.gcd a b)
  · rw [aPut_n q]; exact ⟨by show (-2147483648 : Int) ≤ -1; decide, by show (-1 : Int) ≤ 2147483647; decide⟩
  · rw [aPut_y q]; exact ⟨by show (-2147483648 : Int) ≤ (s.1 : Int); omega, by show (s.1 : Int) ≤ 2147483647; omega⟩
theorem rv_value {s : aS} {a b : Int} (ok : aOK s) : IR (aValue s a b).1 := rv_put ok.1
theorem rv_times {s : aS} {i j : Nat} (ok : aOK s) : IR (aTimes s i j).1 := rv_put ok.1
theorem rv_over {s : aS} {i j : Nat} (ok : aOK s) : IR (aOver s i j).1 := rv_put ok.1
theorem rv_turn {s : aS} {i a b : Nat} (ok : aOK s) : IR (aTurn s i a b).1 := rv_put ok.1
theorem rv_round {s : aS} {i U : Nat} {rule : Int} (ok : aOK s) : IR (aRound s i rule U).1 := rv_put ok.1
theorem rv_add {s : aS} {i j : Nat} (ok : aOK s) : IR (aAdd s i j).1 := by
  unfold aAdd
  split
  · exact rv_put ok.1
  · split <;> exact rv_put ok.1
theorem rv_root {s : aS} {i p : Nat} (ok : aOK s) : IR (aRoot s i p).1 := by
  have := ok.2.2.1
  unfold aRoot
  split
  · exact ⟨by show (-2147483648 : Int) ≤ -1; decide, by show (-1 : Int) ≤ 2147483647; decide⟩
  · exact ⟨by show (-2147483648 : Int) ≤ (s.2.2.1 : Int); omega, by show (s.2.2.1 : Int) ≤ 2147483647; omega⟩
theorem rv_order {s : aS} {i j : Int} (ok : aOK s) (hi : okV i) : IR (aOrder s i.toNat j.toNat) := by
  have u := (okv_s ok hi).1
  unfold aOrder
  split
  · have c := cmpN_s ((s.2.1 i.toNat).2.1 * (s.2.1 j.toNat).2.2) ((s.2.1 j.toNat).2.1 * (s.2.1 i.toNat).2.2)
    have := sg3 u (b := cmpN ((s.2.1 i.toNat).2.1 * (s.2.1 j.toNat).2.2) ((s.2.1 j.toNat).2.1 * (s.2.1 i.toNat).2.2)) (by omega)
    exact ⟨by omega, by omega⟩
  · split
    · exact ⟨by decide, by decide⟩
    · exact ⟨by decide, by decide⟩
theorem rv_bits {s : aS} {i : Int} (ok : aOK s) (hi : okV i) : IR (aBits s i.toNat) := by
  have u := okv_s ok hi
  have a1 := u.2.2.2.1
  have a2 := u.2.2.2.2
  unfold aBits
  split
  · exact ⟨by decide, by decide⟩
  · exact ⟨by omega, by omega⟩
theorem rv_sign {s : aS} {i : Int} (ok : aOK s) (hi : okV i) : IR (s.2.1 i.toNat).1 := by
  have u := (okv_s ok hi).1
  exact ⟨by omega, by omega⟩
theorem rv_end {s : aS} {r v : Int} (ok : aOK s) (h : okE r v) : IR (s.2.2.2.1 (2 * r + v).toNat) := by
  have h1 := h.1.1
  have h2 := h.1.2
  have h3 := h.2.1
  have h4 := h.2.2
  have := ok.2.2.2.1 (2 * r + v).toNat (by omega)
  exact ⟨by omega, by omega⟩
theorem rv_digit {a j : Nat} : IR (aDigit a j) := by
  unfold aDigit
  exact ⟨by omega, by omega⟩

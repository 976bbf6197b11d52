/-! how a walk begins: locals out of the arguments -/
def am_ent : List Value → List (Option Value)
  | [] => []
  | v :: vs => some v :: (if v.category = 2 then none :: am_ent vs else am_ent vs)
theorem am_ent_len : ∀ vs : List Value, (am_ent vs).length = (lg_sl vs).length
  | [] => rfl
  | v :: vs => by
    have ih := am_ent_len vs
    have h1 : (lg_sl (v :: vs)).length = (lg_sl [v]).length + (lg_sl vs).length := by simp [lg_sl]
    rw [h1, ← ih, am_ent]
    cases v <;> simp [Value.category, lg_sl] <;> omega
theorem am_ent_in : ∀ (vs : List Value) (n b i : Nat) (v : Value), (am_ent vs ++ List.replicate n none)[i]? = some (some v) → (b + i, v) ∈ lv_args b vs
  | [], n, b, i, v, h => by
    simp only [am_ent, List.nil_append, List.getElem?_replicate] at h
    split at h <;> cases h
  | u :: vs, n, b, i, v, h => by
    unfold lv_args
    unfold am_ent at h
    cases i with
    | zero =>
      simp only [List.cons_append, List.getElem?_cons_zero, Option.some.injEq] at h
      subst h
      exact List.mem_cons_self
    | succ i =>
      simp only [List.cons_append, List.getElem?_cons_succ] at h
      refine List.mem_cons_of_mem _ ?_
      split at h
      · rename_i q
        rw [if_pos q]
        cases i with
        | zero => simp at h
        | succ i =>
          simp only [List.cons_append, List.getElem?_cons_succ] at h
          have := am_ent_in vs n (b + 2) i v h
          rw [show b + (i + 1 + 1) = b + 2 + i by omega]
          exact this
      · rename_i q
        rw [if_neg q]
        have := am_ent_in vs n (b + 1) i v h
        rw [show b + (i + 1) = b + 1 + i by omega]
        exact this
theorem am_mk {l : Launch} {g : am_G} {y : MethodName} {cc : ByteArray} {maxL : Nat} {ret : Option FieldType} {n mc ms : Nat} {vs : List Value} {h : am_H} {R : Option Value → am_H → Prop} (ls : List (Option Value)) (j : Nat) (hls : am_ent vs ++ List.replicate j none = ls) (hl : ls.length = maxL) (hy : plainName y.cls = true)
    (body : ∀ x : am_X, am_l x = l → am_g x = g → am_C x cc y.cls n mc ms → am_T x ret R mc ms → (y.name = "<init>" → x.2.2.2.2.2.2.2.2.1.name = "<init>") → am_W x 0 0 0 h ls []) : am_Met l g y (am_W1 y cc maxL ret) n mc ms vs h R := by
  refine am_ofMet ls hy ?_ hl (fun i v hi => ?_) (fun x h1 h2 h3 _ h5 h6 => body x h1 h2 h3 h5 h6)
  · rw [← hl, ← hls, List.length_append, am_ent_len]
    omega
  · rw [← hls] at hi
    have := am_ent_in vs j 0 i v hi
    rw [Nat.zero_add] at this
    exact this
theorem am_mkX {l : Launch} {g : am_G} {y : MethodName} {cc : ByteArray} {maxL : Nat} {ret : Option FieldType} {n mc ms : Nat} {vs : List Value} {h : am_H} {R : Option Value → am_H → Prop} {X : String → am_H → Prop} (ls : List (Option Value)) (j : Nat) (hst : l.stackTraces = false) (hls : am_ent vs ++ List.replicate j none = ls) (hl : ls.length = maxL) (hy : plainName y.cls = true)
    (body : ∀ x : am_X, am_l x = l → am_g x = g → am_C x cc y.cls n mc ms → am_T x ret R mc ms → am_TX x X mc ms → am_W x 0 0 0 h ls []) : am_MetX l g y (am_W1 y cc maxL ret) n mc ms vs h R X := by
  refine am_ofMetX ls hst hy ?_ hl (fun i v hi => ?_) body
  · rw [← hl, ← hls, List.length_append, am_ent_len]
    omega
  · rw [← hls] at hi
    have := am_ent_in vs j 0 i v hi
    rw [Nat.zero_add] at this
    exact this
/-! the JDK's methods: by name, not by class -/
theorem am_ofWF {l : Launch} {y : MethodName} {ws ws' : List Cond} {rm : Room} {Pc : Array Value → State → Prop} {Qc : Array Value → State → Outcome → State → Prop} {mc ms : Nat} {free : Addr → Prop} {cc : ByteArray} {maxL : Nat} {ret : Option FieldType}
    (hy : plainFor y = true) (hw : ws = Cond.code y cc maxL ret :: ws')
    (body : ∀ p e s m args below meth c s₁, BodyLoose p l y (headSpec ws rm) cc maxL ret e s m args below meth c s₁ → c.maxLocals = maxL → Pc args s →
      W p l e (headSpec ws rm).room s m args below meth c s.heap [] 0 0 (MQ below Qc args s mc ms free) (entryFrame m args maxL)) : Met l y ws rm Pc Qc mc ms free := by
  refine MetFree.of_bodySF (code := cc) (maxLocals := maxL) (ret := ret) hy ?_ ?_
  · intro args s m h hn
    obtain ⟨meth, c, h1, h2, h3, h4, h5, h6, -, -⟩ := Cond.code_spec hn (atoms_spec (ws := ws) h _ (by rw [hw]; exact List.mem_cons_self))
    exact ⟨meth, c, h1, h2, h3, h4, h5, h6⟩
  · intro p e s m args below meth c s₁ B hml hP _
    have hh0 : s₁.heap = s.heap := by rw [B.state]; rfl
    obtain ⟨t, a1, o, b1, b2, b3⟩ := body p e s m args below meth c s₁ B hml hP s₁ hh0 (Stand.of_body B)
    exact ⟨t, o, a1, b1, b2, ⟨b3.1, b3.2⟩⟩
theorem am_mkF {l : Launch} {g : am_G} {y : MethodName} {cc : ByteArray} {maxL : Nat} {ret : Option FieldType} {n mc ms : Nat} {vs : List Value} {h : am_H} {R : Option Value → am_H → Prop} (ls : List (Option Value)) (j : Nat) (hls : am_ent vs ++ List.replicate j none = ls) (hl : ls.length = maxL) (hy : plainFor y = true)
    (body : ∀ x : am_X, am_l x = l → am_g x = g → am_C x cc y.cls n mc ms → am_T x ret R mc ms → am_W x 0 0 0 h ls []) : am_Met l g y (am_W1 y cc maxL ret) n mc ms vs h R := by
  refine am_ofWF (cc := cc) (maxL := maxL) (ret := ret) hy rfl ?_
  intro p e s m args below meth c s₁ B hml hp
  obtain ⟨rfl, hI, hR⟩ := hp
  have hts := atoms_spec (ws := am_W1 y cc maxL ret) B.pre
  have hW := body (p, l, e, am_rm n mc ms, s, m, (vs.map (am_c g.1)).toArray, below, meth, c, MQ below (am_Q g R) (vs.map (am_c g.1)).toArray s mc ms (am_A g), g, maxL) rfl rfl
    ⟨B.exec, B.bytes, hml, findClass_of_methodNamed B.named, fun w hw => hts w (List.mem_cons_of_mem _ hw), hI, B.notSynchronized, rfl⟩ ⟨B.returns, fun _ q => q⟩
  have h2 := hW s.heap [] _ hR va_S.rf (am_entry vs ls (by rw [← hl, ← hls, List.length_append, am_ent_len]; omega) hl (fun i v hi => by
    rw [← hls] at hi
    have := am_ent_in vs j 0 i v hi
    rw [Nat.zero_add] at this
    exact this))
  rw [lg_entry_eq]
  exact h2
/-- at any point the heap's numbers lie below its end -/
theorem am_okI {x : am_X} {pc k z : Nat} {h : am_H} {ls : List (Option Value)} {st : List Value} (kk : (∀ (q : Nat) (e : am_E), h.2 q = some e → q < h.1) → am_W x pc k z h ls st) : am_W x pc k z h ls st := by
  obtain ⟨p, l, e, R, s, m, args, below, meth, c, Q, g, nL⟩ := x
  intro H locs la hH hS hL
  exact kk (fun q e hq => hH.lt hq) H locs la hH hS hL

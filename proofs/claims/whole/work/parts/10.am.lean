/-! THE ABSTRACT MACHINE: heaps by numbers counted from a base; ints and longs as integers. One law an instruction, said of am_W alone. -/
def vI (z : Int) : Value := .int (Int32.ofInt z)
def vL (z : Int) : Value := .long (Int64.ofInt z)
abbrev vA (i : Nat) : Value := .ref i
def vQ (r : Option Nat) : Value := match r with
  | none => .null
  | some i => .ref i
/-- a value's address is its number behind the base -/
def am_c (b : Nat) (v : Value) : Value := match v with
  | .ref i => .ref (b + i)
  | u => u
theorem am_cI (b : Nat) (z : Int) : am_c b (vI z) = .int (Int32.ofInt z) := rfl
theorem am_cL (b : Nat) (z : Int) : am_c b (vL z) = .long (Int64.ofInt z) := rfl
theorem am_cA (b i : Nat) : am_c b (.ref i) = .ref (b + i) := rfl
theorem am_cQ (b : Nat) (r : Option Nat) : am_c b (vQ r) = va_rf (r.map (b + ·)) := by cases r <;> rfl
theorem am_cat (b : Nat) (v : Value) : (am_c b v).category = v.category := by cases v <;> rfl
abbrev am_E : Type := (Nat × List Value) ⊕ ((Nat × (Nat → Int)) ⊕ ((Nat × (Nat → Int)) ⊕ (Nat × (Nat → Option Nat))))
abbrev eO (ci : Nat) (fs : List Value) : am_E := .inl (ci, fs)
abbrev eI (n : Nat) (f : Nat → Int) : am_E := .inr (.inl (n, f))
abbrev eL (n : Nat) (f : Nat → Int) : am_E := .inr (.inr (.inl (n, f)))
abbrev eR (n : Nat) (f : Nat → Option Nat) : am_E := .inr (.inr (.inr (n, f)))
/-- a heap: how many cells there are behind the base, and what those hold that we speak of -/
abbrev am_H : Type := Nat × (Nat → Option am_E)
def am_up (h : am_H) (i : Nat) (e : am_E) : am_H := (h.1, fun j => if j = i then some e else h.2 j)
def am_push (h : am_H) (e : am_E) : am_H := (h.1 + 1, fun j => if j = h.1 then some e else h.2 j)
/-- base, class numbers and field places, classes of arrays: of int, of long, of Fraction -/
abbrev am_G : Type := Nat × va_G × (Nat × Nat × Nat)
def am_e (g : am_G) (e : am_E) : va_E := match e with
  | .inl q => .inr (q.1, q.2.map (am_c g.1))
  | .inr (.inl a) => .inl (g.2.2.1, a.1, .inl (fun j => Int32.ofInt (a.2 j)))
  | .inr (.inr (.inl a)) => .inl (g.2.2.2.1, a.1, .inr (.inl (fun j => Int64.ofInt (a.2 j))))
  | .inr (.inr (.inr a)) => .inl (g.2.2.2.2, a.1, .inr (.inr (.inr (.inr (fun j => (a.2 j).map (g.1 + ·))))))
abbrev am_cl : List vw_C := [(RX0, TX0, 3), (RX1, TX1, 3), (RX2, TX2, 7), (RX3, TX3, 2), (RX4, TX4, 15), (RX5, TX5, 11)]
def am_ty (g : am_G) : List (ClassId × FieldType) := [(g.2.2.1, .int), (g.2.2.2.1, .long), (g.2.2.2.2, .object RX1)]
def am_R (g : am_G) (h : am_H) (H : Heap) : Prop := H.size = g.1 + h.1 ∧ ∀ (i : Nat) (e : am_E), h.2 i = some e → va_at g.2.1 am_cl (g.1 + i, am_e g e) H
def am_A (g : am_G) : Nat → Prop := fun q => g.1 ≤ q
theorem am_R.lt {g : am_G} {h : am_H} {H : Heap} (q : am_R g h H) {i : Nat} {e : am_E} (hi : h.2 i = some e) : i < h.1 := by
  have h1 := (q.2 i e hi).lt
  have h2 := q.1
  dsimp only at h1
  omega
theorem am_R.one {g : am_G} {h : am_H} {H : Heap} (q : am_R g h H) {i : Nat} {e : am_E} (hi : h.2 i = some e) : va_P g.2.1 am_cl [(g.1 + i, am_e g e)] H := by
  intro k x hk
  match k, hk with
  | 0, hk => cases hk; exact q.2 i e hi
  | k + 1, hk => simp at hk
/-- one cell is written -/
theorem am_R.up {g : am_G} {h : am_H} {H H1 : Heap} (q : am_R g h H) (i : Nat) (e : am_E) (z : H1.size = H.size) (oq : ∀ a : Nat, a ≠ g.1 + i → H1[a]? = H[a]?) (he : va_at g.2.1 am_cl (g.1 + i, am_e g e) H1) : am_R g (am_up h i e) H1 := by
  refine ⟨by rw [z]; exact q.1, fun j x hj => ?_⟩
  by_cases hji : j = i
  · subst hji
    simp only [am_up, if_pos] at hj
    cases hj
    exact he
  · simp only [am_up, if_neg hji] at hj
    exact (q.2 j x hj).kept (oq _ (by dsimp only; omega))
/-- a cell is made -/
theorem am_R.push {g : am_G} {h : am_H} {H H1 : Heap} (q : am_R g h H) (e : am_E) (z : H1.size = H.size + 1) (oq : ∀ a : Nat, a < H.size → H1[a]? = H[a]?) (he : va_at g.2.1 am_cl (H.size, am_e g e) H1) : am_R g (am_push h e) H1 := by
  have hq := q.1
  refine ⟨by rw [z, hq]; simp only [am_push]; omega, fun j x hj => ?_⟩
  by_cases hji : j = h.1
  · subst hji
    simp only [am_push, if_pos] at hj
    cases hj
    rw [← hq]
    exact he
  · simp only [am_push, if_neg hji] at hj
    have hl := q.lt hj
    exact (q.2 j x hj).kept (oq _ (by dsimp only; omega))
/-- cells are made of which nothing is said -/
theorem am_R.grow {g : am_G} {h : am_H} {H H1 : Heap} (q : am_R g h H) (n : Nat) (z : H1.size = g.1 + n) (oq : ∀ a : Nat, a < H.size → H1[a]? = H[a]?) : am_R g (n, h.2) H1 :=
  ⟨z, fun j x hj => (q.2 j x hj).kept (oq _ ((q.2 j x hj).lt))⟩
theorem am_S.push {g : am_G} {H0 H H1 : Heap} {locs : List Loc} (h : va_S (am_A g) H0 H locs) (z : H.size ≤ H1.size) (oq : ∀ a : Nat, a < H.size → H1[a]? = H[a]?) : va_S (am_A g) H0 H1 locs :=
  ⟨Nat.le_trans h.1 z, fun x h1 h2 => (oq x (Nat.lt_of_lt_of_le h1 h.1)).trans (h.2.1 x h1 h2), h.2.2⟩
/-! words: those of the tables that every call keeps -/
def am_ws : List Cond := lw_tbl.filter goodWord
theorem am_in {w : Cond} (h : w ∈ lw_tbl) (hg : goodWord w = true) : w ∈ am_ws := List.mem_filter.mpr ⟨h, hg⟩
theorem am_ws_good : ∀ w ∈ am_ws, goodWord w = true := fun _ h => (List.mem_filter.mp h).2
abbrev am_W1 (y : MethodName) (cc : ByteArray) (maxL : Nat) (ret : Option FieldType) : List Cond := .code y cc maxL ret :: am_ws
abbrev am_WH (y : MethodName) (cc : ByteArray) (maxL : Nat) (ret : Option FieldType) (hh : List (Nat × Nat × Nat × Nat)) : List Cond := .codeWith y cc maxL ret hh :: am_ws
theorem am_good1 {y : MethodName} {cc : ByteArray} {maxL : Nat} {ret : Option FieldType} (h : Cond.code y cc maxL ret ∈ am_ws) : GoodIn am_ws (am_W1 y cc maxL ret) := by
  intro w hw
  have hm : w ∈ am_ws := (List.mem_cons.mp hw).elim (fun q => by rw [q]; exact h) id
  exact ⟨hm, good_of_word (am_ws_good w hm)⟩
theorem am_goodH {y : MethodName} {cc : ByteArray} {maxL : Nat} {ret : Option FieldType} {hh : List (Nat × Nat × Nat × Nat)} (h : Cond.codeWith y cc maxL ret hh ∈ am_ws) : GoodIn am_ws (am_WH y cc maxL ret hh) := by
  intro w hw
  have hm : w ∈ am_ws := (List.mem_cons.mp hw).elim (fun q => by rw [q]; exact h) id
  exact ⟨hm, good_of_word (am_ws_good w hm)⟩
/-! what never changes: of the tables, of the statics -/
def am_tab : Nat → Int := fun j => if j = 0 then 3 else if j = 1 then 300 else if j = 2 then 300000 else if j = 3 then 7620 else if j = 4 then 91440 else 635
abbrev am_AIO : String := "java/lang/ArrayIndexOutOfBoundsException"
abbrev am_IAE : String := "java/lang/IllegalArgumentException"
abbrev am_ARE : String := "java/lang/ArithmeticException"
/-- words that a throw needs beside the good ones -/
def am_odd (w : Cond) : Bool := match w with
  | .castable .. => true
  | .declares _ => true
  | _ => false
theorem am_odd_warm {w : Cond} {s U : State} (hW : s.WarmedH U.vm) (ho : am_odd w = true) (h : va_Nw w s) : va_Nw w U := by
  unfold am_odd at ho
  split at ho
  · exact va_Nw.warmC hW h
  · exact va_Nw.warmD hW h
  · cases ho
def am_I (g : am_G) (U : State) : Prop :=
  va_K g.2.1 am_cl (am_ty g) U ∧ vx_Zq Bundle.tN "UNASSIGNED_STACK" Bundle.steD (am_A g) U U.heap ∧ vx_Zq Bundle.tN "SUPPRESSED_SENTINEL" Bundle.listD (am_A g) U U.heap ∧
  (∃ t : Nat, va_Z RX4 "UNIT_LENGTHS" "[J" (.ref t) (am_A g) U U.heap ∧ va_T .long t 6 (fun j => .long (Int64.ofInt (am_tab j))) (am_A g) U U.heap) ∧
  (∀ (a : String) (i : Nat) (b n d q : String), Cond.fieldLinkNest a i b n d q ∈ lw_tbl → va_Nw (.fieldLinkNest a i b n d q) U) ∧
  (∀ (a : String) (i : Nat) (y : MethodName) (q : String), Cond.methodLinkNest a i y q ∈ lw_tbl → va_Nw (.methodLinkNest a i y q) U) ∧
  va_AO RX1 U ∧ (va_Nc am_ARE am_AIO U ∧ va_Nc am_IAE am_AIO U ∧ va_Nc am_ARE am_IAE U) ∧
  (∀ (a : Nat) (tx : String), Cond.stringRef RX4 a tx ∈ lw_tbl → ∃ q : Nat, vk_R RX4 a tx q U) ∧ (∀ w ∈ lw_tbl, am_odd w = true → va_Nw w U) ∧ g.1 ≤ U.heap.size
theorem am_I.moved {g : am_G} {s U : State} (h : am_I g s) (hW : s.WarmedH U.vm) (hz : s.heap.size ≤ U.heap.size) (hq : ∀ a : Nat, a < s.heap.size → ¬ am_A g a → U.heap[a]? = s.heap[a]?) : am_I g U := by
  obtain ⟨h1, h2, h3, ⟨t, h4, h5⟩, h6, h7, h8, ⟨h9, h10, h11⟩, h13, h14, h12⟩ := h
  have hv := hW.alike
  exact ⟨va_K.moved hv h1, vx_Zq.moved hv (vx_Zq.kept h2 hq), vx_Zq.moved hv (vx_Zq.kept h3 hq), ⟨t, va_Z.moved hv (va_Z.kept h4 hq), va_T.moved hv (va_T.kept h5 hq)⟩,
    fun a i b n d q hm => va_Nw.warmF hW (h6 a i b n d q hm), fun a i y q hm => va_Nw.warmM hW (h7 a i y q hm), va_AO.moved hv h8, ⟨va_Nc.moved hv h9, va_Nc.moved hv h10, va_Nc.moved hv h11⟩, fun a tx hm => (h13 a tx hm).imp fun _ hq => vk_R.warm hW hq, fun w hm ho => am_odd_warm hW ho (h14 w hm ho), Nat.le_trans h12 hz⟩
theorem am_I.calling {g : am_G} {U : State} (h : am_I g U) (f : JFrame) (mk : MethodId) (a : Array Value) : am_I g (U.calling f mk a) :=
  h.moved (U := U.calling f mk a) (State.WarmedH.refl U) (Nat.le_refl _) (fun _ _ _ => rfl)
/-! contracts -/
abbrev am_Pc (g : am_G) (vs : List Value) (h : am_H) : Array Value → State → Prop := va_Pc (vs.map (am_c g.1)) (fun U => am_I g U ∧ am_R g h U.heap)
def am_Q (g : am_G) (R : Option Value → am_H → Prop) : Array Value → State → Outcome → State → Prop := fun _ st oc t => (∃ (r : Option Value) (h1 : am_H), oc = .returned (r.map (am_c g.1)) ∧ R r h1 ∧ am_R g h1 t.heap) ∧ va_F (am_A g) st t
def am_XC (g : am_G) (X : String → am_H → Prop) : String → State → State → Prop := fun E st t => (∃ h1 : am_H, X E h1 ∧ am_R g h1 t.heap) ∧ va_F (am_A g) st t
/-- level n of calls -/
def am_rm (n mc ms : Nat) : Room := { frames := n, cells := mc, slots := ms, locals := 70 * n }
def am_Met (l : Launch) (g : am_G) (y : MethodName) (ws : List Cond) (n mc ms : Nat) (vs : List Value) (h : am_H) (R : Option Value → am_H → Prop) : Prop :=
  Met l y ws (am_rm n mc ms) (am_Pc g vs h) (am_Q g R) mc ms (am_A g)
def am_MetX (l : Launch) (g : am_G) (y : MethodName) (ws : List Cond) (n mc ms : Nat) (vs : List Value) (h : am_H) (R : Option Value → am_H → Prop) (X : String → am_H → Prop) : Prop :=
  vx_Met l y ws (am_rm n mc ms) (am_Pc g vs h) (am_Q g R) (am_XC g X) mc ms (am_A g)
theorem am_blind (g : am_G) (vs : List Value) (h : am_H) : FrameBlind (am_Pc g vs h) := fun _ _ f mk q => ⟨q.1, q.2.1.calling f mk _, q.2.2⟩
/-! the judgement -/
abbrev am_X : Type := Program × Launch × Env × Room × State × MethodId × Array Value × List Frame × Method × Code × (State → Prop) × am_G × Nat
def am_L (b nL : Nat) (ls : List (Option Value)) (la : Array Slot) : Prop := lv_has la nL [] ∧ ls.length = nL ∧ ∀ (i : Nat) (v : Value), ls[i]? = some (some v) → la[i]? = some (.val (am_c b v))
def am_W (x : am_X) (pc k z : Nat) (h : am_H) (ls : List (Option Value)) (st : List Value) : Prop := match x with
  | (p, l, e, R, s, m, args, below, meth, c, Q, g, nL) => ∀ (H : Heap) (locs : List Loc) (la : Array Slot), am_R g h H → va_S (am_A g) s.heap H locs → am_L g.1 nL ls la → W p l e R s m args below meth c H locs k z Q (F0 m pc la (st.map (am_c g.1)))
/-- what a walk knows: the code, the class, the level, the words -/
def am_C (x : am_X) (cc : ByteArray) (own : String) (n mc ms : Nat) : Prop := match x with
  | (p, l, e, R, s, m, args, below, meth, c, Q, g, nL) => p.tables.exec = Jvm.exec ∧ c.code = cc ∧ c.maxLocals = nL ∧ s.vm.findClass own = some m.cls ∧ (∀ w ∈ am_ws, w.before args s = true) ∧ am_I g s ∧ meth.locks = false ∧ R = am_rm n mc ms
abbrev am_g (x : am_X) : am_G := x.2.2.2.2.2.2.2.2.2.2.2.1
abbrev am_l (x : am_X) : Launch := x.2.1
/-- it returns as R says -/
def am_T (x : am_X) (ret : Option FieldType) (R : Option Value → am_H → Prop) (mc ms : Nat) : Prop := match x with
  | (p, l, e, Rm, s, m, args, below, meth, c, Q, g, nL) => meth.sig.returnType = ret ∧ ∀ (q : State), MQ below (am_Q g R) args s mc ms (am_A g) q → Q q
/-- it throws as X says, out of a table without rows -/
def am_TX (x : am_X) (X : String → am_H → Prop) (mc ms : Nat) : Prop := match x with
  | (p, l, e, Rm, s, m, args, below, meth, c, Q, g, nL) => l.stackTraces = false ∧ (∀ y ∈ c.exceptionTable.toList, False) ∧ ∃ R : Option Value → am_H → Prop, Q = vx_MQ below (am_Q g R) (am_XC g X) args s mc ms (am_A g)
theorem am_entry {b nL : Nat} (vs : List Value) (ls : List (Option Value)) (hn : (lg_sl vs).length ≤ nL) (hl : ls.length = nL) (hv : ∀ (i : Nat) (v : Value), ls[i]? = some (some v) → (i, v) ∈ lv_args 0 vs) :
    am_L b nL ls ((lg_sl (vs.map (am_c b)) ++ List.replicate (nL - (lg_sl (vs.map (am_c b))).length) Slot.unset).toArray) := by
  have e1 : (lg_sl (vs.map (am_c b))).length = (lg_sl vs).length := by
    clear hv hn
    induction vs with
    | nil => rfl
    | cons v vs ih =>
      have h1 : ∀ (u : Value) (us : List Value), lg_sl (u :: us) = lg_sl [u] ++ lg_sl us := fun u us => by simp [lg_sl]
      rw [List.map_cons, h1, h1 v, List.length_append, List.length_append, ih]
      congr 1
      cases v <;> rfl
  have e2 : ∀ (k : Nat) (us : List Value), lv_args k (us.map (am_c b)) = (lv_args k us).map (fun q => (q.1, am_c b q.2)) := by
    intro k us
    induction us generalizing k with
    | nil => rfl
    | cons v us ih =>
      simp only [List.map_cons, lv_args, am_cat]
      split <;> rw [ih]
  have h := lv_entry (vs.map (am_c b)) (n := nL) (by rw [e1]; exact hn)
  refine ⟨⟨h.1, h.2.1, fun q hq => by cases hq⟩, hl, fun i v hi => ?_⟩
  refine h.2.2 (i, am_c b v) ?_
  rw [e2]
  exact List.mem_map.mpr ⟨(i, v), hv i v hi, rfl⟩

theorem am_ofMet {l : Launch} {g : am_G} {y : MethodName} {cc : ByteArray} {maxL : Nat} {ret : Option FieldType} {n mc ms : Nat} {vs : List Value} {h : am_H} {R : Option Value → am_H → Prop} (ls : List (Option Value)) (hy : plainName y.cls = true)
    (hn : (lg_sl vs).length ≤ maxL) (hl : ls.length = maxL) (hv : ∀ (i : Nat) (v : Value), ls[i]? = some (some v) → (i, v) ∈ lv_args 0 vs)
    (body : ∀ x : am_X, am_l x = l → am_g x = g → am_C x cc y.cls n mc ms → (∀ (k z : Nat), k ≤ mc → z ≤ ms → am_T x ret R k z → True) → am_T x ret R mc ms → (y.name = "<init>" → x.2.2.2.2.2.2.2.2.1.name = "<init>") → am_W x 0 0 0 h ls []) : am_Met l g y (am_W1 y cc maxL ret) n mc ms vs h R := by
  refine Met.ofW (cc := cc) (maxL := maxL) (ret := ret) hy rfl ?_
  intro p e s m args below meth c s₁ B hml hp
  obtain ⟨rfl, hI, hR⟩ := hp
  have hts := atoms_spec (ws := am_W1 y cc maxL ret) B.pre
  have hW := body (p, l, e, am_rm n mc ms, s, m, (vs.map (am_c g.1)).toArray, below, meth, c, MQ below (am_Q g R) (vs.map (am_c g.1)).toArray s mc ms (am_A g), g, maxL) rfl rfl
    ⟨B.exec, B.bytes, hml, findClass_of_methodNamed B.named, fun w hw => hts w (List.mem_cons_of_mem _ hw), hI, B.notSynchronized, rfl⟩ (fun _ _ _ _ _ => trivial) ⟨B.returns, fun _ q => q⟩ (fun hi => by have h1 := (name_of_methodNamed B.named B.method).1; rw [h1]; exact hi)
  have h2 := hW s.heap [] _ hR va_S.rf (am_entry vs ls hn hl hv)
  rw [lg_entry_eq]
  exact h2
theorem am_ofMetX {l : Launch} {g : am_G} {y : MethodName} {cc : ByteArray} {maxL : Nat} {ret : Option FieldType} {n mc ms : Nat} {vs : List Value} {h : am_H} {R : Option Value → am_H → Prop} {X : String → am_H → Prop} (ls : List (Option Value)) (hst : l.stackTraces = false) (hy : plainName y.cls = true)
    (hn : (lg_sl vs).length ≤ maxL) (hl : ls.length = maxL) (hv : ∀ (i : Nat) (v : Value), ls[i]? = some (some v) → (i, v) ∈ lv_args 0 vs)
    (body : ∀ x : am_X, am_l x = l → am_g x = g → am_C x cc y.cls n mc ms → am_T x ret R mc ms → am_TX x X mc ms → am_W x 0 0 0 h ls []) : am_MetX l g y (am_W1 y cc maxL ret) n mc ms vs h R X := by
  refine vx_ofW (cc := cc) (maxL := maxL) (ret := ret) hy rfl ?_
  intro p e s m args below meth c s₁ B hml htab hp
  obtain ⟨rfl, hI, hR⟩ := hp
  have hts := atoms_spec (ws := am_W1 y cc maxL ret) B.pre
  have hW := body (p, l, e, am_rm n mc ms, s, m, (vs.map (am_c g.1)).toArray, below, meth, c, vx_MQ below (am_Q g R) (am_XC g X) (vs.map (am_c g.1)).toArray s mc ms (am_A g), g, maxL) rfl rfl
    ⟨B.exec, B.bytes, hml, findClass_of_methodNamed B.named, fun w hw => hts w (List.mem_cons_of_mem _ hw), hI, B.notSynchronized, rfl⟩ ⟨B.returns, fun q ⟨b1, b2, b3, b4, b5⟩ => ⟨b1, b2, b3, Or.inl ⟨b4, b5⟩⟩⟩ ⟨hst, htab, R, rfl⟩
  have h2 := hW s.heap [] _ hR va_S.rf (am_entry vs ls hn hl hv)
  rw [lg_entry_eq]
  exact h2

/-- the pool's entry idx of class own names the field k of class ci -/
def am_F (own : String) (idx ci k : Nat) : Prop := ∃ q : vw_C, am_cl[ci]? = some q ∧ k < q.2.2 ∧ (q.2.1 k).1 = q.1 ∧
  (Cond.fieldLink own idx q.1 (q.2.1 k).2.1 (q.2.1 k).2.2.1 ∈ am_ws ∨ ∃ host : String, Cond.fieldLinkNest own idx q.1 (q.2.1 k).2.1 (q.2.1 k).2.2.1 host ∈ lw_tbl)
/-- .. and it is one that may be written (by a constructor of its class: final) -/
def am_FW (own : String) (idx ci k : Nat) (ty : FieldType) (fin : Bool) : Prop := ∃ (q : vw_C) (tys : Nat → FieldType), am_cl[ci]? = some q ∧ k < q.2.2 ∧ (q.2.1 k).1 = q.1 ∧ tys k = ty ∧ (q.2.1 k).2.2.2 = fin ∧
  (∀ j, j < q.2.2 → parseFieldDescriptor (q.2.1 j).2.2.1 = some (tys j)) ∧ (∀ a, a < q.2.2 → ∀ b, b < q.2.2 → a ≠ b → (q.2.1 a).2.1 ≠ (q.2.1 b).2.1) ∧ Cond.fieldLink own idx q.1 (q.2.1 k).2.1 (q.2.1 k).2.2.1 ∈ am_ws ∧ (fin = true → q.1 = own)
/-- what the words say of a call -/
def am_K (y : MethodName) (cc : ByteArray) (maxL : Nat) (ret : Option FieldType) (na : Nat) : Prop := Cond.initialized y.cls ∈ am_ws ∧ Cond.code y cc maxL ret ∈ am_ws ∧ (y.cls ≠ "java/lang/invoke/MethodHandle" ∧ y.cls ≠ "java/lang/invoke/VarHandle" ∧ (parseMethodDescriptor y.desc).map (fun d => d.parameters.length) = some na) ∧ maxL ≤ 50
def am_KV (own : String) (idx : Nat) (y : MethodName) (cc : ByteArray) (maxL : Nat) (ret : Option FieldType) (na : Nat) : Prop := am_K y cc maxL ret na ∧ Cond.methodLink own idx y ∈ am_ws ∧ Cond.instanceMethod y ∈ am_ws ∧ Cond.selects y.cls y y ∈ am_ws
def am_KS (own : String) (idx : Nat) (y : MethodName) (cc : ByteArray) (maxL : Nat) (ret : Option FieldType) (na : Nat) : Prop := am_K y cc maxL ret na ∧ Cond.methodLink own idx y ∈ am_ws ∧ Cond.static y ∈ am_ws
def am_KI (own : String) (idx : Nat) (y : MethodName) (cc : ByteArray) (maxL : Nat) (na : Nat) : Prop := am_K y cc maxL none na ∧ y.name = "<init>" ∧ Cond.instanceMethod y ∈ am_ws ∧ (Cond.methodLink own idx y ∈ am_ws ∨ ∃ host : String, Cond.methodLinkNest own idx y host ∈ lw_tbl)
/-- "throw new E(..)" out of class own: its words -/
def am_KU (own : String) (ik ic : Nat) (E : String) (names : List String) : Prop := Bundle.fit E = true ∧ (∀ q ∈ names, Bundle.fit q = true) ∧ Cond.classLink own ik E ∈ am_ws ∧ Cond.initialized E ∈ am_ws ∧ own = RX4 ∧
  (∀ w ∈ vx_atS own ic E names, w ∈ am_ws ∨ (w ∈ lw_tbl ∧ am_odd w = true)) ∧ (∀ w ∈ Cond.classLink own ik E :: Cond.initialized E :: vx_atS own ic E names, vx_ot w = true)
/-- .. with its text -/
def am_KT (own : String) (ik is ic : Nat) (E text : String) (names : List String) : Prop := am_KU own ik ic E names ∧ Cond.stringRef RX4 is text ∈ lw_tbl


/-! fields -/
theorem am_cl_in : ∀ (ci : Nat) (q : vw_C), am_cl[ci]? = some q → ∀ w ∈ u_ws q.1 q.2.1 q.2.2, w ∈ am_ws := by
  intro ci q hq
  match ci, hq with
  | 0, hq => cases hq; decide +kernel
  | 1, hq => cases hq; decide +kernel
  | 2, hq => cases hq; decide +kernel
  | 3, hq => cases hq; decide +kernel
  | 4, hq => cases hq; decide +kernel
  | 5, hq => cases hq; decide +kernel
  | ci + 6, hq => simp at hq
theorem am_getf {x : am_X} {cc : ByteArray} {own : String} {n mc ms : Nat} (hC : am_C x cc own n mc ms) {pc k z : Nat} {h : am_H} {ls : List (Option Value)} {st : List Value} {idx ci k0 i : Nat} {fs : List Value} {v : Value} (d : decode cc pc = .ok (.getfield idx, 3)) (hF : am_F own idx ci k0) (ho : h.2 i = some (eO ci fs)) (hv : fs[k0]? = some v) (kk : am_W x (pc + 3) k z h ls (v :: st)) : am_W x pc k z h ls (.ref i :: st) := by
  obtain ⟨p, l, e, R, s, m, args, below, meth, c, Q, g, nL⟩ := x
  obtain ⟨hx, hb, hml, hown, hts, hI, hlk, hR⟩ := hC
  intro H locs la hH hS hL
  obtain ⟨q, hq, hk, hdc, hlink⟩ := hF
  have hv2 : (fs.map (am_c g.1))[k0]? = some (am_c g.1 v) := by rw [List.getElem?_map, hv]; rfl
  have hkk := kk H locs la hH hS hL
  rcases hlink with hl | ⟨host, hl⟩
  · exact va_get (own := own) (ref := q.1) (C := q.1) (T := q.2.1) (N := q.2.2) (ci := ci) hx hb hts (am_cl_in ci q hq) hown hI.1 (hH.one ho) 0 rfl hq k0 hk (hts _ hl) (fun y hy => by rw [hdc] at hy; exact hy) hv2 d hkk
  · exact va_getN (own := own) (ref := q.1) (C := q.1) (host := host) (T := q.2.1) (N := q.2.2) (ci := ci) hx hb hts (am_cl_in ci q hq) hown hI.1 (hH.one ho) 0 rfl hq k0 hk (va_Nw.use rfl (hI.2.2.2.2.1 _ _ _ _ _ _ hl)) (fun y hy => by rw [hdc] at hy; exact hy) hv2 d hkk

/-- what a field of that type may hold -/
def am_fit (ty : FieldType) (v : Value) : Prop := ∀ b : Nat, narrow ty (am_c b v) = am_c b v ∧ fits ty (am_c b v) = true
theorem am_fitI (v : Int) : am_fit .int (vI v) := fun _ => ⟨rfl, rfl⟩
theorem am_fitL (v : Int) : am_fit .long (vL v) := fun _ => ⟨rfl, rfl⟩
theorem am_fitO (C : String) (i : Nat) : am_fit (.object C) (.ref i) := fun _ => ⟨rfl, rfl⟩
theorem am_fitA (t : FieldType) (i : Nat) : am_fit (.array t) (.ref i) := fun _ => ⟨rfl, rfl⟩
theorem am_putf0 {p : Program} {l : Launch} {e : Env} {R : Room} {s : State} {m : MethodId} {args : Array Value} {below : List Frame} {meth : Method} {c : Code} {H : Heap} {locs : List Loc} {cells slots : Nat} {Q : State → Prop} {cc : ByteArray} {pc : Nat} {la : Array Slot} {rest : List Value} {own : String} {fin : Bool}
    (hx : p.tables.exec = Jvm.exec) (hb : c.code = cc) (hts : ∀ w ∈ am_ws, w.before args s = true) (hown : s.vm.findClass own = some m.cls) {g : am_G} (hK : va_K g.2.1 am_cl (am_ty g) s) {idx ci k0 a : Nat} {ty : FieldType} {fs : List Value} {u : Value} (hF : am_FW own idx ci k0 ty fin) (hin : fin = true → meth.name = "<init>")
    (hat : va_at g.2.1 am_cl (a, .inr (ci, fs)) H) (hn : narrow ty u = u) (hfit : fits ty u = true) (hl : k0 < fs.length) (d : decode cc pc = .ok (.putfield idx, 3))
    (kk : ∀ (H1 : Heap) (f : Nat), va_at g.2.1 am_cl (a, .inr (ci, fs.set k0 u)) H1 → H1.size = H.size → (∀ q, q ≠ a → H1[q]? = H[q]?) → W p l e R s m args below meth c H1 (locs ++ [⟨a, f⟩]) cells slots Q (F0 m (pc + 3) la rest)) : W p l e R s m args below meth c H locs cells slots Q (F0 m pc la (u :: .ref a :: rest)) := by
  obtain ⟨q, tys, hq, hk, hdc, hty, hfi, htys, hnm, hlw, hfo⟩ := hF
  have hap := va_apart (own := own) (C := q.1) (T := q.2.1) (N := q.2.2) (ci := ci) hts (am_cl_in ci q hq) tys htys hnm hK hq
  obtain ⟨r, h1, cell, q1, q2, q3, q4⟩ := hat
  have hr : r = q := Option.some.inj (h1.symm.trans hq)
  subst hr
  obtain ⟨hSl, hfc, kC, hkC, hkind⟩ := hK.1 ci _ hq
  obtain ⟨cf, kf, fi, f, hi, hsl⟩ := hSl k0 hk
  rw [hdc] at hi
  have hd : parseFieldDescriptor (r.2.1 k0).2.2.1 = some ty := by rw [htys k0 hk, hty]
  have hst := (u_facts hfc hkC (u_lays hts (am_cl_in ci r hq) hk) (by rw [hdc]; exact hi)).1
  cases fin with
  | false =>
    have hlay := hts _ (am_cl_in ci r hq _ (u_in_lay hk))
    unfold u_lay at hlay
    rw [if_neg (by rw [hfi]; decide)] at hlay
    rw [hdc] at hlay
    have h6 := u_store hfc hkC hkind hlay hi hd hn hfit
    refine W.putK hx hb (f := f) ⟨hown, hts _ hlw, ⟨_, _, _, hi⟩, hst⟩ (by rw [q2]; exact h6) q1 q3 (by rw [hsl]; exact k2_hasslot (q4 k0 hk)) rfl rfl d fun H' e1 e2 e3 => ?_
    rw [hsl] at e1 ⊢
    exact kk H' _ ⟨_, hq, t_OB.to (V := updV (vp_V fs) k0 u) ⟨_, e1, q2, q3, t_set q4 hap hk u⟩ (fun j _ => vp_updV_set hl u j)⟩ e2 e3
  | true =>
    have hlay := hts _ (am_cl_in ci r hq _ (u_in_lay hk))
    unfold u_lay at hlay
    rw [if_pos hfi] at hlay
    rw [hdc] at hlay
    have hcf : m.cls = cf := by
      obtain ⟨_, _, c', _, _, _, -, -, hf', -, -, -, hown2, -⟩ := Cond.laysFinal_spec hlay
      have e1 : c' = cf := by have := hi.symm.trans hf'; simp at this; exact this.1.symm
      rw [hfo rfl] at hown2
      rw [← e1]; exact Option.some.inj (hown.symm.trans hown2)
    have h6 := u_fits hfc hkC hkind (Or.inr hlay) hi hd hn hfit
    refine W.putFinK hx hb hown (hts _ hlw) hi hst hcf (hin rfl) (by rw [q2]; exact h6) q1 q3 (by rw [hsl]; exact k2_hasslot (q4 k0 hk)) rfl rfl d fun H' e1 e2 e3 => ?_
    rw [hsl] at e1 ⊢
    exact kk H' _ ⟨_, hq, t_OB.to (V := updV (vp_V fs) k0 u) ⟨_, e1, q2, q3, t_set q4 hap hk u⟩ (fun j _ => vp_updV_set hl u j)⟩ e2 e3
theorem am_putf {x : am_X} {cc : ByteArray} {own : String} {n mc ms : Nat} (hC : am_C x cc own n mc ms) {pc k z : Nat} {h : am_H} {ls : List (Option Value)} {st : List Value} {idx ci k0 i : Nat} {ty : FieldType} {fin : Bool} {fs : List Value} {v : Value} (d : decode cc pc = .ok (.putfield idx, 3)) (hF : am_FW own idx ci k0 ty fin) (hin : fin = true → x.2.2.2.2.2.2.2.2.1.name = "<init>") (ho : h.2 i = some (eO ci fs)) (hv : am_fit ty v) (hl : k0 < fs.length) (kk : am_W x (pc + 3) k z (am_up h i (eO ci (fs.set k0 v))) ls st) : am_W x pc k z h ls (v :: .ref i :: st) := by
  obtain ⟨p, l, e, R, s, m, args, below, meth, c, Q, g, nL⟩ := x
  obtain ⟨hx, hb, hml, hown, hts, hI, hlk, hR⟩ := hC
  intro H locs la hH hS hL
  refine am_putf0 (fs := fs.map (am_c g.1)) hx hb hts hown hI.1 hF hin (hH.2 i _ ho) (hv g.1).1 (hv g.1).2 (by rw [List.length_map]; exact hl) d fun H1 f e1 e2 e3 => ?_
  refine kk H1 _ la (hH.up i _ e2 e3 ?_) (hS.put e2 e3 (Nat.le_add_right _ _)) hL
  rw [← List.map_set] at e1
  exact e1

/-! arrays -/
theorem am_tys0 (g : am_G) : (am_ty g)[0]? = some (g.2.2.1, .int) := rfl
theorem am_tys1 (g : am_G) : (am_ty g)[1]? = some (g.2.2.2.1, .long) := rfl
theorem am_tys2 (g : am_G) : (am_ty g)[2]? = some (g.2.2.2.2, .object RX1) := rfl
theorem am_iald {x : am_X} {cc : ByteArray} {own : String} {n mc ms : Nat} (hC : am_C x cc own n mc ms) {pc k z : Nat} {h : am_H} {ls : List (Option Value)} {st : List Value} {i N : Nat} {f : Nat → Int} {j : Int} (d : decode cc pc = .ok (.iaload, 1)) (ho : h.2 i = some (eI N f)) (hj : 0 ≤ j ∧ j < N) (hN : N ≤ 2147483647) (kk : am_W x (pc + 1) k z h ls (vI (f j.toNat) :: st)) : am_W x pc k z h ls (vI j :: .ref i :: st) := by
  obtain ⟨p, l, e, R, s, m, args, below, meth, c, Q, g, nL⟩ := x
  obtain ⟨hx, hb, hml, hown, hts, hI, hlk, hR⟩ := hC
  intro H locs la hH hS hL
  refine va_iald hx hb hI.1 (hH.one ho) 0 0 rfl (am_tys0 g) (am_in32 hj hN) d ?_
  rw [am_cl32 (by omega)]
  exact kk H locs la hH hS hL
theorem am_lald {x : am_X} {cc : ByteArray} {own : String} {n mc ms : Nat} (hC : am_C x cc own n mc ms) {pc k z : Nat} {h : am_H} {ls : List (Option Value)} {st : List Value} {i N : Nat} {f : Nat → Int} {j : Int} (d : decode cc pc = .ok (.laload, 1)) (ho : h.2 i = some (eL N f)) (hj : 0 ≤ j ∧ j < N) (hN : N ≤ 2147483647) (kk : am_W x (pc + 1) k z h ls (vL (f j.toNat) :: st)) : am_W x pc k z h ls (vI j :: .ref i :: st) := by
  obtain ⟨p, l, e, R, s, m, args, below, meth, c, Q, g, nL⟩ := x
  obtain ⟨hx, hb, hml, hown, hts, hI, hlk, hR⟩ := hC
  intro H locs la hH hS hL
  refine va_lald hx hb hI.1 (hH.one ho) 0 1 rfl (am_tys1 g) (am_in32 hj hN) d ?_
  rw [am_cl32 (by omega)]
  exact kk H locs la hH hS hL
theorem am_aald {x : am_X} {cc : ByteArray} {own : String} {n mc ms : Nat} (hC : am_C x cc own n mc ms) {pc k z : Nat} {h : am_H} {ls : List (Option Value)} {st : List Value} {i N : Nat} {f : Nat → Option Nat} {j : Int} (d : decode cc pc = .ok (.aaload, 1)) (ho : h.2 i = some (eR N f)) (hj : 0 ≤ j ∧ j < N) (hN : N ≤ 2147483647) (kk : am_W x (pc + 1) k z h ls (vQ (f j.toNat) :: st)) : am_W x pc k z h ls (vI j :: .ref i :: st) := by
  obtain ⟨p, l, e, R, s, m, args, below, meth, c, Q, g, nL⟩ := x
  obtain ⟨hx, hb, hml, hown, hts, hI, hlk, hR⟩ := hC
  intro H locs la hH hS hL
  refine va_aldq hx hb hI.1 (hH.one ho) 0 2 rfl (am_tys2 g) (am_in32 hj hN) d ?_
  have h1 := kk H locs la hH hS hL
  rw [List.map_cons, am_cQ] at h1
  rw [am_cl32 (by omega)]
  exact h1
theorem am_alenI {x : am_X} {cc : ByteArray} {own : String} {n mc ms : Nat} (hC : am_C x cc own n mc ms) {pc k z : Nat} {h : am_H} {ls : List (Option Value)} {st : List Value} {i N : Nat} {f : Nat → Int} (d : decode cc pc = .ok (.arraylength, 1)) (ho : h.2 i = some (eI N f)) (kk : am_W x (pc + 1) k z h ls (vI N :: st)) : am_W x pc k z h ls (.ref i :: st) := by
  obtain ⟨p, l, e, R, s, m, args, below, meth, c, Q, g, nL⟩ := x
  obtain ⟨hx, hb, hml, hown, hts, hI, hlk, hR⟩ := hC
  intro H locs la hH hS hL
  exact va_alen hx hb hI.1 (hH.one ho) 0 0 rfl (am_tys0 g) (v := Int32.ofInt N) (by first | rfl | exact (Int32.ofInt_eq_ofNat).symm) d (kk H locs la hH hS hL)
theorem am_alenL {x : am_X} {cc : ByteArray} {own : String} {n mc ms : Nat} (hC : am_C x cc own n mc ms) {pc k z : Nat} {h : am_H} {ls : List (Option Value)} {st : List Value} {i N : Nat} {f : Nat → Int} (d : decode cc pc = .ok (.arraylength, 1)) (ho : h.2 i = some (eL N f)) (kk : am_W x (pc + 1) k z h ls (vI N :: st)) : am_W x pc k z h ls (.ref i :: st) := by
  obtain ⟨p, l, e, R, s, m, args, below, meth, c, Q, g, nL⟩ := x
  obtain ⟨hx, hb, hml, hown, hts, hI, hlk, hR⟩ := hC
  intro H locs la hH hS hL
  exact va_alen hx hb hI.1 (hH.one ho) 0 1 rfl (am_tys1 g) (v := Int32.ofInt N) (by first | rfl | exact (Int32.ofInt_eq_ofNat).symm) d (kk H locs la hH hS hL)
theorem am_alenR {x : am_X} {cc : ByteArray} {own : String} {n mc ms : Nat} (hC : am_C x cc own n mc ms) {pc k z : Nat} {h : am_H} {ls : List (Option Value)} {st : List Value} {i N : Nat} {f : Nat → Option Nat} (d : decode cc pc = .ok (.arraylength, 1)) (ho : h.2 i = some (eR N f)) (kk : am_W x (pc + 1) k z h ls (vI N :: st)) : am_W x pc k z h ls (.ref i :: st) := by
  obtain ⟨p, l, e, R, s, m, args, below, meth, c, Q, g, nL⟩ := x
  obtain ⟨hx, hb, hml, hown, hts, hI, hlk, hR⟩ := hC
  intro H locs la hH hS hL
  exact va_alen hx hb hI.1 (hH.one ho) 0 2 rfl (am_tys2 g) (v := Int32.ofInt N) (by first | rfl | exact (Int32.ofInt_eq_ofNat).symm) d (kk H locs la hH hS hL)
def am_fu (f : Nat → Int) (j : Nat) (v : Int) : Nat → Int := fun q => if q = j then v else f q
def am_fq (f : Nat → Option Nat) (j : Nat) (v : Option Nat) : Nat → Option Nat := fun q => if q = j then v else f q
theorem am_iast {x : am_X} {cc : ByteArray} {own : String} {n mc ms : Nat} (hC : am_C x cc own n mc ms) {pc k z : Nat} {h : am_H} {ls : List (Option Value)} {st : List Value} {i N : Nat} {f : Nat → Int} {j v : Int} (d : decode cc pc = .ok (.iastore, 1)) (ho : h.2 i = some (eI N f)) (hj : 0 ≤ j ∧ j < N) (hN : N ≤ 2147483647) (kk : am_W x (pc + 1) k z (am_up h i (eI N (am_fu f j.toNat v))) ls st) : am_W x pc k z h ls (vI v :: vI j :: .ref i :: st) := by
  obtain ⟨p, l, e, R, s, m, args, below, meth, c, Q, g, nL⟩ := x
  obtain ⟨hx, hb, hml, hown, hts, hI, hlk, hR⟩ := hC
  intro H locs la hH hS hL
  refine W.iast hx hb (hH.2 i _ ho) ((hI.1.2 0 _ (am_tys0 g)).1 N (fun j => .int (Int32.ofInt (f j)))) (fun q => by cases q) (by show ¬ (_ ∨ (arrV _ _ _).slots.size ≤ _); rw [arrV_size]; exact am_in32 hj hN) rfl rfl d fun H1 e1 e2 e3 => ?_
  refine kk H1 _ la (hH.up i _ e2 e3 ?_) (hS.put e2 e3 (Nat.le_add_right _ _)) hL
  show H1[g.1 + i]? = some (vp_cell _ _)
  rw [e1]
  dsimp only [am_e]
  rw [vp_cell_i, vp_cell_i, arrV_store, am_cl32 (by omega)]
  congr 2
  funext q
  by_cases hq : q = j.toNat
  · subst hq
    simp [updV, am_fu]
  · simp [updV, am_fu, hq]
theorem am_last {x : am_X} {cc : ByteArray} {own : String} {n mc ms : Nat} (hC : am_C x cc own n mc ms) {pc k z : Nat} {h : am_H} {ls : List (Option Value)} {st : List Value} {i N : Nat} {f : Nat → Int} {j v : Int} (d : decode cc pc = .ok (.lastore, 1)) (ho : h.2 i = some (eL N f)) (hj : 0 ≤ j ∧ j < N) (hN : N ≤ 2147483647) (kk : am_W x (pc + 1) k z (am_up h i (eL N (am_fu f j.toNat v))) ls st) : am_W x pc k z h ls (vL v :: vI j :: .ref i :: st) := by
  obtain ⟨p, l, e, R, s, m, args, below, meth, c, Q, g, nL⟩ := x
  obtain ⟨hx, hb, hml, hown, hts, hI, hlk, hR⟩ := hC
  intro H locs la hH hS hL
  refine W.last hx hb (hH.2 i _ ho) ((hI.1.2 1 _ (am_tys1 g)).1 N (fun j => .long (Int64.ofInt (f j)))) (fun q => by cases q) (by show ¬ (_ ∨ (arrV _ _ _).slots.size ≤ _); rw [arrV_size]; exact am_in32 hj hN) rfl rfl d fun H1 e1 e2 e3 => ?_
  refine kk H1 _ la (hH.up i _ e2 e3 ?_) (hS.put e2 e3 (Nat.le_add_right _ _)) hL
  show H1[g.1 + i]? = some (vp_cell _ _)
  rw [e1]
  dsimp only [am_e]
  rw [vp_cell_l, vp_cell_l, arrV_store, am_cl32 (by omega)]
  congr 2
  funext q
  by_cases hq : q = j.toNat
  · subst hq
    simp [updV, am_fu]
  · simp [updV, am_fu, hq]
theorem am_aast {x : am_X} {cc : ByteArray} {own : String} {n mc ms : Nat} (hC : am_C x cc own n mc ms) {pc k z : Nat} {h : am_H} {ls : List (Option Value)} {st : List Value} {i N a : Nat} {vs : List Value} {f : Nat → Option Nat} {j : Int} (d : decode cc pc = .ok (.aastore, 1)) (ho : h.2 i = some (eR N f)) (ha : h.2 a = some (eO 1 vs)) (hj : 0 ≤ j ∧ j < N) (hN : N ≤ 2147483647) (kk : am_W x (pc + 1) k z (am_up h i (eR N (am_fq f j.toNat (some a)))) ls st) : am_W x pc k z h ls (.ref a :: vI j :: .ref i :: st) := by
  obtain ⟨p, l, e, R, s, m, args, below, meth, c, Q, g, nL⟩ := x
  obtain ⟨hx, hb, hml, hown, hts, hI, hlk, hR⟩ := hC
  intro H locs la hH hS hL
  have h0 := am_in32 hj hN
  obtain ⟨r', hr', cellV, g1, g2, g3, -⟩ := hH.2 a _ ha
  have hcls := (hI.1.1 1 (RX1, TX1, 3) rfl).2
  obtain ⟨kA, comp, k1, k2, k3, -⟩ := (hI.1.2 2 _ (am_tys2 g)).2
  have hcomp : comp = g.2.1.1 1 := Option.some.inj (k3.symm.trans hcls.1)
  subst hcomp
  obtain ⟨kC, hkC, -⟩ := id hcls.2
  refine W.aast hx hb (hH.2 i _ ho) (fun q h => by cases h) (fun h => by cases h) k1 k2 rfl hkC ⟨fun q => h0 (Or.inl q), by show _ < (arrV _ _ _).slots.size; rw [arrV_size]; exact Nat.not_le.mp fun q => h0 (Or.inr q)⟩ g1 (fun q h => by rw [g3] at h; cases h) (by rw [g2]; exact hkC) (by rw [g2]; exact va_assign hcls) rfl rfl d fun H1 e1 e2 e3 => ?_
  refine kk H1 _ la (hH.up i _ e2 e3 ?_) (hS.put e2 e3 (Nat.le_add_right _ _)) hL
  show H1[g.1 + i]? = some (vp_cell _ _)
  rw [e1]
  dsimp only [am_e]
  rw [vp_cell_q, vp_cell_q, arrV_store, am_cl32 (by omega)]
  congr 2
  funext q
  by_cases hq : q = j.toNat
  · subst hq
    simp [updV, am_fq, va_rf]
  · simp [updV, am_fq, hq]
/-! new -/
theorem am_newI {x : am_X} {cc : ByteArray} {own : String} {n mc ms : Nat} (hC : am_C x cc own n mc ms) {pc k z : Nat} {h : am_H} {ls : List (Option Value)} {st : List Value} {a : Int} (N : Nat) (d : decode cc pc = .ok (.newarray .int, 2)) (ha : a = N) (hN : N ≤ 100000) (hc : k + 1 ≤ mc) (hs : z + N ≤ ms) (kk : am_W x (pc + 2) (k + 1) (z + N) (am_push h (eI N (fun _ => 0))) ls (.ref h.1 :: st)) : am_W x pc k z h ls (vI a :: st) := by
  obtain ⟨p, l, e, R, s, m, args, below, meth, c, Q, g, nL⟩ := x
  obtain ⟨hx, hb, hml, hown, hts, hI, hlk, hR⟩ := hC
  intro H locs la hH hS hL
  subst ha; subst hR
  refine va_newaK (N := N) hx hb (hts _ (am_in (by decide +kernel) rfl)) rfl d rfl (fun q => by rw [am_z32, am_lt32 (by omega) (by omega)] at q; omega) (by rw [am_cl32 (by omega)]; omega) (by show N * 4 ≤ _; omega) hc hs hH.1 fun H1 cA e1 e2 e3 e4 e5 => ?_
  have e6 : cA = g.2.2.1 := Option.some.inj (e5.symm.trans (hI.1.2 0 _ (am_tys0 g)).2)
  subst e6
  refine kk H1 locs la (hH.push _ (by rw [e2, hH.1]) (fun a ha => e3 a (by rw [← hH.1]; exact ha)) ?_) (am_S.push hS (by rw [e2, hH.1]; omega) (fun a ha => e3 a (by rw [← hH.1]; exact ha))) hL
  rw [hH.1]
  exact e1
theorem am_newL {x : am_X} {cc : ByteArray} {own : String} {n mc ms : Nat} (hC : am_C x cc own n mc ms) {pc k z : Nat} {h : am_H} {ls : List (Option Value)} {st : List Value} {a : Int} (N : Nat) (d : decode cc pc = .ok (.newarray .long, 2)) (ha : a = N) (hN : N ≤ 100000) (hc : k + 1 ≤ mc) (hs : z + N ≤ ms) (kk : am_W x (pc + 2) (k + 1) (z + N) (am_push h (eL N (fun _ => 0))) ls (.ref h.1 :: st)) : am_W x pc k z h ls (vI a :: st) := by
  obtain ⟨p, l, e, R, s, m, args, below, meth, c, Q, g, nL⟩ := x
  obtain ⟨hx, hb, hml, hown, hts, hI, hlk, hR⟩ := hC
  intro H locs la hH hS hL
  subst ha; subst hR
  refine va_newaK (N := N) hx hb (hts _ (am_in (by decide +kernel) rfl)) rfl d rfl (fun q => by rw [am_z32, am_lt32 (by omega) (by omega)] at q; omega) (by rw [am_cl32 (by omega)]; omega) (by show N * 8 ≤ _; omega) hc hs hH.1 fun H1 cA e1 e2 e3 e4 e5 => ?_
  have e6 : cA = g.2.2.2.1 := Option.some.inj (e5.symm.trans (hI.1.2 1 _ (am_tys1 g)).2)
  subst e6
  refine kk H1 locs la (hH.push _ (by rw [e2, hH.1]) (fun a ha => e3 a (by rw [← hH.1]; exact ha)) ?_) (am_S.push hS (by rw [e2, hH.1]; omega) (fun a ha => e3 a (by rw [← hH.1]; exact ha))) hL
  rw [hH.1]
  exact e1
theorem am_newR {x : am_X} {cc : ByteArray} {own : String} {n mc ms : Nat} (hC : am_C x cc own n mc ms) {pc k z : Nat} {h : am_H} {ls : List (Option Value)} {st : List Value} {a : Int} {idx : Nat} (N : Nat) (d : decode cc pc = .ok (.anewarray idx, 3)) (hw : Cond.classLink own idx RX1 ∈ am_ws) (ha : a = N) (hN : N ≤ 100000) (hc : k + 1 ≤ mc) (hs : z + N ≤ ms) (kk : am_W x (pc + 3) (k + 1) (z + N) (am_push h (eR N (fun _ => none))) ls (.ref h.1 :: st)) : am_W x pc k z h ls (vI a :: st) := by
  obtain ⟨p, l, e, R, s, m, args, below, meth, c, Q, g, nL⟩ := x
  obtain ⟨hx, hb, hml, hown, hts, hI, hlk, hR⟩ := hC
  intro H locs la hH hS hL
  subst ha; subst hR
  have hcl := am_cl32 (a := (N : Int)) (by omega)
  refine W.anew hx hb hown (hts _ hw) (va_AO.use hI.2.2.2.2.2.2.1) rfl d rfl (fun q => by rw [am_z32, am_lt32 (by omega) (by omega)] at q; omega) (by rw [hcl]; omega) hc (by rw [hcl]; exact hs) fun cA kA comp f1 f2 f3 f4 => ?_
  rw [hcl, Int.toNat_natCast]
  generalize hH1 : H.push ({ cls := cA, slots := Array.replicate N .null, vm := .none } : Cell) = H1
  have z1 : H1.size = H.size + 1 := by rw [← hH1, Array.size_push]
  have e1 : H1[H.size]? = some (arrV cA N (fun _ => .null)) := by rw [← hH1, Array.getElem?_push_size, ← arrV_new]
  have o1 : ∀ q : Nat, q < H.size → H1[q]? = H[q]? := fun q hq => by rw [← hH1, Array.getElem?_push, if_neg (Nat.ne_of_lt hq)]
  have e6 : cA = g.2.2.2.2 := by
    obtain ⟨kA', comp', k1, k2, k3, k4⟩ := (hI.1.2 2 _ (am_tys2 g)).2
    exact Option.some.inj (f1.symm.trans k4)
  subst e6
  have h9 := kk H1 locs la (hH.push _ z1 o1 e1) (am_S.push hS (by omega) o1) hL
  rw [List.map_cons, am_cA, ← hH.1] at h9
  exact h9
theorem am_new {x : am_X} {cc : ByteArray} {own : String} {n mc ms : Nat} (hC : am_C x cc own n mc ms) {pc k z : Nat} {h : am_H} {ls : List (Option Value)} {st : List Value} {idx ci : Nat} (q : vw_C) (tys : Nat → FieldType) (fs : List Value) (d : decode cc pc = .ok (.new idx, 3)) (hq : am_cl[ci]? = some q) (htys : ∀ j, j < q.2.2 → parseFieldDescriptor (q.2.1 j).2.2.1 = some (tys j)) (hfs : ∀ (b j : Nat), j < q.2.2 → defaultValue (tys j) = vp_V (fs.map (am_c b)) j)
    (h1 : Cond.classLink own idx q.1 ∈ am_ws) (h2 : Cond.instantiable q.1 q.2.2 ∈ am_ws) (h3 : Cond.initialized q.1 ∈ am_ws) (hc : k + 1 ≤ mc) (hs : z + q.2.2 ≤ ms) (kk : am_W x (pc + 3) (k + 1) (z + q.2.2) (am_push h (eO ci fs)) ls (.ref h.1 :: st)) : am_W x pc k z h ls st := by
  obtain ⟨p, l, e, R, s, m, args, below, meth, c, Q, g, nL⟩ := x
  obtain ⟨hx, hb, hml, hown, hts, hI, hlk, hR⟩ := hC
  intro H locs la hH hS hL
  subst hR
  have hKn := hI.1.1 ci _ hq
  refine W.newcK hx hb hown (hts _ h1) (hts _ h2) (hts _ h3) rfl d hc hs hKn.2.1 rfl fun H1 kC hkC e1 z1 o1 => ?_
  have h9 := kk H1 locs la (hH.push _ z1 o1 ⟨_, hq, (u_born tys hts (am_cl_in ci q hq) hKn hkC e1 htys).to (hfs g.1)⟩) (am_S.push hS (by omega) o1) hL
  rw [List.map_cons, am_cA, ← hH.1] at h9
  exact h9

theorem am_objInit {x : am_X} {cc : ByteArray} {own : String} {n mc ms : Nat} (hC : am_C x cc own n mc ms) {pc k z : Nat} {h : am_H} {ls : List (Option Value)} {st : List Value} {idx i : Nat} (d : decode cc pc = .ok (.invokespecial idx, 3)) (hw : Cond.methodLink own idx Lib.objectInit ∈ am_ws) (hn : 1 ≤ n) (hst : (st.map fun v => v.category).sum ≤ 8) (kk : am_W x (pc + 3) k z h ls st) : am_W x pc k z h ls (.ref i :: st) := by
  obtain ⟨p, l, e, R, s, m, args, below, meth, c, Q, g, nL⟩ := x
  obtain ⟨hx, hb, hml, hown, hts, hI, hlk, hR⟩ := hC
  intro H locs la hH hS hL
  subst hR
  have e9 : ((st.map (am_c g.1)).map fun v => v.category).sum = (st.map fun v => v.category).sum := by
    rw [List.map_map]; congr 2; funext v; exact am_cat _ _
  refine W.objInit hx hb hown (hts _ hw) (hts _ (am_in (by decide +kernel) rfl)) (hts _ (am_in (by decide +kernel) rfl)) rfl (by rw [hml]; exact hL.1.1) rfl d hn ?_ ?_
  · show 2 * 0 + _ + 12 ≤ 70 * n
    rw [e9]; omega
  · exact kk H locs la hH hS hL


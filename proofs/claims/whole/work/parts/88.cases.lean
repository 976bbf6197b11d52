/-! the cases of the law's switch -/
theorem K46_q : ∀ j ∈ K46, j < 43 ∨ 49 < j := fun j hj => by
  rcases List.mem_cons.mp hj with h | h
  · exact Or.inr (by omega)
  · exact Or.inl (K39_lt _ h)
theorem K39_q : ∀ j ∈ K39, j < 43 ∨ 49 < j := fun j hj => Or.inl (K39_lt _ hj)
theorem K45_q : ∀ j ∈ K45, 43 ≤ j ∧ j ≤ 50 := by decide
/-- what holds between two calls -/
def lx_I (h : am_H) : Prop := ∃ (s : aS) (th : Int) (wd : Nat) (R f : Nat → Int), kS h s ∧ eS h s th wd R ∧ aOK s ∧ 51 ≤ h.1 ∧ h.2 50 = some (eL 1 f)
theorem lc_value {x : am_X} {sb L : Nat} {xs : Nat → Int32} (hC : am_C x cL_law RL 20 600384 7289322) (hX : lx_S x sb L xs) (hst : (am_l x).stackTraces = false) {h : am_H} (I : lx_I h) {n k z : Nat} (hn : 5 * n + 5 ≤ L) (hk : k + 14 ≤ 600384) (hz : z + 300 ≤ 7289322) (y5 y6 y7 : Option Value)
    (next : ∀ (h1 : am_H) (k1 z1 : Nat) (y5 y6 y7 : Option Value), lx_I h1 → k1 ≤ k + 14 → z1 ≤ z + 300 → lx_W x sb 1203 k1 z1 h1 [none, some (.ref 0), some (.ref 43), some (.ref 50), some (vI ((5 * n : Nat) : Int)), y5, y6, y7] []) :
    lx_W x sb 112 k z h [none, some (.ref 0), some (.ref 43), some (.ref 50), some (vI ((5 * n : Nat) : Int)), y5, y6, y7] [] := by
  obtain ⟨s, th, wd, R, f, v, e, ok, h47, ho⟩ := I
  refine lx_aload1 hC dL_law_112 ?_
  refine lx_long hC hX 1 cL_64 dL_law_113 dL_law_114 dL_law_116 dL_law_117 dL_law_118 dL_law_119 dL_law_120 dL_law_122 dL_law_123 dL_law_124 dL_law_126 dL_law_127 dL_law_128 dL_law_129 dL_law_130 dL_law_133 dL_law_134 (by omega) ?_
  refine lx_long hC hX 3 cL_64 dL_law_135 dL_law_136 dL_law_138 dL_law_139 dL_law_140 dL_law_141 dL_law_142 dL_law_144 dL_law_145 dL_law_146 dL_law_148 dL_law_149 dL_law_150 dL_law_151 dL_law_152 dL_law_155 dL_law_156 (by omega) ?_
  refine lx_aload3 hC dL_law_157 ?_
  refine lx_SH hC dL_law_158 hL_value (w_value _ _ hst v h47 ok (scrJ_r _ _) (scrJ_r _ _) ho) rfl rfl (Nat.le_of_ble_eq_true rfl) (by decide) (by omega) (by omega) (fun kq h1 q => ?_)
  obtain ⟨⟨ek, v1, g1, f1, o1, ov⟩, rv⟩ := q
  have b1 := g1.1
  have e1 := e.gx g1 (by omega) K46_q
  have k1 := e1.1
  refine lx_istore5 hC dL_law_161 rfl ?_
  refine lx_aload2 hC dL_law_163 ?_
  refine lx_long hC hX 1 cL_64 dL_law_164 dL_law_165 dL_law_167 dL_law_168 dL_law_169 dL_law_170 dL_law_171 dL_law_173 dL_law_174 dL_law_175 dL_law_177 dL_law_178 dL_law_179 dL_law_180 dL_law_181 dL_law_184 dL_law_185 (by omega) ?_
  refine lx_long hC hX 3 cL_64 dL_law_186 dL_law_187 dL_law_189 dL_law_190 dL_law_191 dL_law_192 dL_law_193 dL_law_195 dL_law_196 dL_law_197 dL_law_199 dL_law_200 dL_law_201 dL_law_202 dL_law_203 dL_law_206 dL_law_207 (by omega) ?_
  refine lx_V2_qI hC 5 dL_law_208 kL_71 (m_Mvalue _ _ e1 ok (scrJ_r _ _) (scrJ_r _ _)) k1 rfl (Nat.le_of_ble_eq_true rfl) (by decide) (by omega) (by omega) (fun b h2 q0 => ?_)
  have q := cv_value q0
  have sk : aOK (sp_value s (scrJ xs (5 * n + 1)) (scrJ xs (5 * n + 3))).2.1 ∧ 0 ≤ (sp_value s (scrJ xs (5 * n + 1)) (scrJ xs (5 * n + 3))).1 ∧ (sp_value s (scrJ xs (5 * n + 1)) (scrJ xs (5 * n + 3))).1 ≤ 3 := sk_value ok
  obtain ⟨Q, hQ⟩ : ∃ Q, Q = sp_value s (scrJ xs (5 * n + 1)) (scrJ xs (5 * n + 3)) := ⟨_, rfl⟩
  rw [← hQ] at q sk ek v1 ov rv
  obtain ⟨eb, ⟨wd2, R2, e2⟩, o2⟩ := q
  have b2 := o2.1
  have v2 := v1.on o2.gx (by omega) K45_q
  have o46 := (o2.2 50 (by decide)).trans o1
  subst ek
  refine lx_istore6 hC dL_law_211 rfl ?_
  refine lx_aload2 hC dL_law_213 ?_
  refine lx_V0_pI hC 5 dL_law_214 kL_72 (m_Mthrown _ _ e2) e2.1 rfl (Nat.le_of_ble_eq_true rfl) (by decide) (by omega) (by omega) ?_
  refine lx_iload5 hC dL_law_217 ?_
  refine lx_icmp_eq hC 224 dL_law_219 rfl (by omega) (by omega) (fun c => ?_) (fun c => absurd rfl c)
  refine lx_iload5 hC dL_law_224 ?_
  have fin : ∀ (k2 z2 : Nat) (y5 y6 y7 : Option Value), k2 ≤ k + 14 → z2 ≤ z + 300 → lx_W x sb 241 k2 z2 h2 [none, some (.ref 0), some (.ref 43), some (.ref 50), some (vI ((5 * n : Nat) : Int)), y5, y6, y7] [] := by
    intro k2 z2 y5 y6 y7 a1 a2
    refine lx_goto hC 1203 dL_law_241 rfl ?_
    exact next _ _ _ _ _ _ ⟨_, _, _, _, _, v2, e2, sk.1, by omega, o46⟩ a1 a2
  refine lx_if_ne hC 241 dL_law_226 rfl (by omega) (fun _ => fin _ _ _ _ _ (by omega) (by omega)) (fun c0 => ?_)
  refine lx_aload3 hC dL_law_229 ?_
  refine lx_iconst hC dL_law_230 ?_
  refine lx_lald hC dL_law_231 o46 (by omega) (by omega) ?_
  rw [show ((0 : Int)).toNat = 0 from rfl, ov c0, eb c0]
  have r := rv c0
  refine lx_iload6 hC dL_law_232 ?_
  refine lx_i2l hC dL_law_234 (by omega) ?_
  refine lx_lif_eq hC 241 dL_law_235 dL_law_236 rfl (by omega) (by omega) (fun _ => fin _ _ _ _ _ (by omega) (by omega)) (fun c => absurd rfl c)
theorem lc_add {x : am_X} {sb L : Nat} {xs : Nat → Int32} (hC : am_C x cL_law RL 20 600384 7289322) (hX : lx_S x sb L xs) (hst : (am_l x).stackTraces = false) {h : am_H} (I : lx_I h) {n k z : Nat} (hn : 5 * n + 5 ≤ L) (hk : k + 14 ≤ 600384) (hz : z + 300 ≤ 7289322) (y5 y6 y7 : Option Value)
    (next : ∀ (h1 : am_H) (k1 z1 : Nat) (y5 y6 y7 : Option Value), lx_I h1 → k1 ≤ k + 14 → z1 ≤ z + 300 → lx_W x sb 1203 k1 z1 h1 [none, some (.ref 0), some (.ref 43), some (.ref 50), some (vI ((5 * n : Nat) : Int)), y5, y6, y7] []) :
    lx_W x sb 244 k z h [none, some (.ref 0), some (.ref 43), some (.ref 50), some (vI ((5 * n : Nat) : Int)), y5, y6, y7] [] := by
  obtain ⟨s, th, wd, R, f, v, e, ok, h47, ho⟩ := I
  refine lx_aload1 hC dL_law_244 ?_
  refine lx_int hC hX 1 dL_law_245 dL_law_246 dL_law_248 dL_law_249 dL_law_250 (by omega) ?_
  refine lx_int hC hX 2 dL_law_251 dL_law_252 dL_law_254 dL_law_255 dL_law_256 (by omega) ?_
  refine lx_aload3 hC dL_law_257 ?_
  refine lx_SH hC dL_law_258 hL_add (w_add _ _ hst v h47 ok (scrI_r _ _) (scrI_r _ _) ho) rfl rfl (Nat.le_of_ble_eq_true rfl) (by decide) (by omega) (by omega) (fun kq h1 q => ?_)
  obtain ⟨⟨ek, v1, g1, f1, o1, ov⟩, rv⟩ := q
  have b1 := g1.1
  have e1 := e.gx g1 (by omega) K46_q
  have k1 := e1.1
  refine lx_istore5 hC dL_law_261 rfl ?_
  refine lx_aload2 hC dL_law_263 ?_
  refine lx_int hC hX 1 dL_law_264 dL_law_265 dL_law_267 dL_law_268 dL_law_269 (by omega) ?_
  refine lx_int hC hX 2 dL_law_270 dL_law_271 dL_law_273 dL_law_274 dL_law_275 (by omega) ?_
  refine lx_V2_qI hC 5 dL_law_276 kL_79 (m_Madd _ _ e1 ok (scrI_r _ _) (scrI_r _ _)) k1 rfl (Nat.le_of_ble_eq_true rfl) (by decide) (by omega) (by omega) (fun b h2 q0 => ?_)
  have q := cv_add q0
  have sk : aOK (sp_add s (scrI xs (5 * n + 1)) (scrI xs (5 * n + 2))).2.1 ∧ 0 ≤ (sp_add s (scrI xs (5 * n + 1)) (scrI xs (5 * n + 2))).1 ∧ (sp_add s (scrI xs (5 * n + 1)) (scrI xs (5 * n + 2))).1 ≤ 3 := sk_add ok
  obtain ⟨Q, hQ⟩ : ∃ Q, Q = sp_add s (scrI xs (5 * n + 1)) (scrI xs (5 * n + 2)) := ⟨_, rfl⟩
  rw [← hQ] at q sk ek v1 ov rv
  obtain ⟨eb, ⟨wd2, R2, e2⟩, o2⟩ := q
  have b2 := o2.1
  have v2 := v1.on o2.gx (by omega) K45_q
  have o46 := (o2.2 50 (by decide)).trans o1
  subst ek
  refine lx_istore6 hC dL_law_279 rfl ?_
  refine lx_aload2 hC dL_law_281 ?_
  refine lx_V0_pI hC 5 dL_law_282 kL_72 (m_Mthrown _ _ e2) e2.1 rfl (Nat.le_of_ble_eq_true rfl) (by decide) (by omega) (by omega) ?_
  refine lx_iload5 hC dL_law_285 ?_
  refine lx_icmp_eq hC 292 dL_law_287 rfl (by omega) (by omega) (fun c => ?_) (fun c => absurd rfl c)
  refine lx_iload5 hC dL_law_292 ?_
  have fin : ∀ (k2 z2 : Nat) (y5 y6 y7 : Option Value), k2 ≤ k + 14 → z2 ≤ z + 300 → lx_W x sb 309 k2 z2 h2 [none, some (.ref 0), some (.ref 43), some (.ref 50), some (vI ((5 * n : Nat) : Int)), y5, y6, y7] [] := by
    intro k2 z2 y5 y6 y7 a1 a2
    refine lx_goto hC 1203 dL_law_309 rfl ?_
    exact next _ _ _ _ _ _ ⟨_, _, _, _, _, v2, e2, sk.1, by omega, o46⟩ a1 a2
  refine lx_if_ne hC 309 dL_law_294 rfl (by omega) (fun _ => fin _ _ _ _ _ (by omega) (by omega)) (fun c0 => ?_)
  refine lx_aload3 hC dL_law_297 ?_
  refine lx_iconst hC dL_law_298 ?_
  refine lx_lald hC dL_law_299 o46 (by omega) (by omega) ?_
  rw [show ((0 : Int)).toNat = 0 from rfl, ov c0, eb c0]
  have r := rv c0
  refine lx_iload6 hC dL_law_300 ?_
  refine lx_i2l hC dL_law_302 (by omega) ?_
  refine lx_lif_eq hC 309 dL_law_303 dL_law_304 rfl (by omega) (by omega) (fun _ => fin _ _ _ _ _ (by omega) (by omega)) (fun c => absurd rfl c)
theorem lc_times {x : am_X} {sb L : Nat} {xs : Nat → Int32} (hC : am_C x cL_law RL 20 600384 7289322) (hX : lx_S x sb L xs) (hst : (am_l x).stackTraces = false) {h : am_H} (I : lx_I h) {n k z : Nat} (hn : 5 * n + 5 ≤ L) (hk : k + 14 ≤ 600384) (hz : z + 300 ≤ 7289322) (y5 y6 y7 : Option Value)
    (next : ∀ (h1 : am_H) (k1 z1 : Nat) (y5 y6 y7 : Option Value), lx_I h1 → k1 ≤ k + 14 → z1 ≤ z + 300 → lx_W x sb 1203 k1 z1 h1 [none, some (.ref 0), some (.ref 43), some (.ref 50), some (vI ((5 * n : Nat) : Int)), y5, y6, y7] []) :
    lx_W x sb 312 k z h [none, some (.ref 0), some (.ref 43), some (.ref 50), some (vI ((5 * n : Nat) : Int)), y5, y6, y7] [] := by
  obtain ⟨s, th, wd, R, f, v, e, ok, h47, ho⟩ := I
  refine lx_aload1 hC dL_law_312 ?_
  refine lx_int hC hX 1 dL_law_313 dL_law_314 dL_law_316 dL_law_317 dL_law_318 (by omega) ?_
  refine lx_int hC hX 2 dL_law_319 dL_law_320 dL_law_322 dL_law_323 dL_law_324 (by omega) ?_
  refine lx_aload3 hC dL_law_325 ?_
  refine lx_SH hC dL_law_326 hL_times (w_times _ _ hst v h47 ok (scrI_r _ _) (scrI_r _ _) ho) rfl rfl (Nat.le_of_ble_eq_true rfl) (by decide) (by omega) (by omega) (fun kq h1 q => ?_)
  obtain ⟨⟨ek, v1, g1, f1, o1, ov⟩, rv⟩ := q
  have b1 := g1.1
  have e1 := e.gx g1 (by omega) K46_q
  have k1 := e1.1
  refine lx_istore5 hC dL_law_329 rfl ?_
  refine lx_aload2 hC dL_law_331 ?_
  refine lx_int hC hX 1 dL_law_332 dL_law_333 dL_law_335 dL_law_336 dL_law_337 (by omega) ?_
  refine lx_int hC hX 2 dL_law_338 dL_law_339 dL_law_341 dL_law_342 dL_law_343 (by omega) ?_
  refine lx_V2_qI hC 5 dL_law_344 kL_82 (m_Mtimes _ _ e1 ok (scrI_r _ _) (scrI_r _ _)) k1 rfl (Nat.le_of_ble_eq_true rfl) (by decide) (by omega) (by omega) (fun b h2 q0 => ?_)
  have q := cv_times q0
  have sk : aOK (sp_times s (scrI xs (5 * n + 1)) (scrI xs (5 * n + 2))).2.1 ∧ 0 ≤ (sp_times s (scrI xs (5 * n + 1)) (scrI xs (5 * n + 2))).1 ∧ (sp_times s (scrI xs (5 * n + 1)) (scrI xs (5 * n + 2))).1 ≤ 3 := sk_times ok
  obtain ⟨Q, hQ⟩ : ∃ Q, Q = sp_times s (scrI xs (5 * n + 1)) (scrI xs (5 * n + 2)) := ⟨_, rfl⟩
  rw [← hQ] at q sk ek v1 ov rv
  obtain ⟨eb, ⟨wd2, R2, e2⟩, o2⟩ := q
  have b2 := o2.1
  have v2 := v1.on o2.gx (by omega) K45_q
  have o46 := (o2.2 50 (by decide)).trans o1
  subst ek
  refine lx_istore6 hC dL_law_347 rfl ?_
  refine lx_aload2 hC dL_law_349 ?_
  refine lx_V0_pI hC 5 dL_law_350 kL_72 (m_Mthrown _ _ e2) e2.1 rfl (Nat.le_of_ble_eq_true rfl) (by decide) (by omega) (by omega) ?_
  refine lx_iload5 hC dL_law_353 ?_
  refine lx_icmp_eq hC 360 dL_law_355 rfl (by omega) (by omega) (fun c => ?_) (fun c => absurd rfl c)
  refine lx_iload5 hC dL_law_360 ?_
  have fin : ∀ (k2 z2 : Nat) (y5 y6 y7 : Option Value), k2 ≤ k + 14 → z2 ≤ z + 300 → lx_W x sb 377 k2 z2 h2 [none, some (.ref 0), some (.ref 43), some (.ref 50), some (vI ((5 * n : Nat) : Int)), y5, y6, y7] [] := by
    intro k2 z2 y5 y6 y7 a1 a2
    refine lx_goto hC 1203 dL_law_377 rfl ?_
    exact next _ _ _ _ _ _ ⟨_, _, _, _, _, v2, e2, sk.1, by omega, o46⟩ a1 a2
  refine lx_if_ne hC 377 dL_law_362 rfl (by omega) (fun _ => fin _ _ _ _ _ (by omega) (by omega)) (fun c0 => ?_)
  refine lx_aload3 hC dL_law_365 ?_
  refine lx_iconst hC dL_law_366 ?_
  refine lx_lald hC dL_law_367 o46 (by omega) (by omega) ?_
  rw [show ((0 : Int)).toNat = 0 from rfl, ov c0, eb c0]
  have r := rv c0
  refine lx_iload6 hC dL_law_368 ?_
  refine lx_i2l hC dL_law_370 (by omega) ?_
  refine lx_lif_eq hC 377 dL_law_371 dL_law_372 rfl (by omega) (by omega) (fun _ => fin _ _ _ _ _ (by omega) (by omega)) (fun c => absurd rfl c)
theorem lc_over {x : am_X} {sb L : Nat} {xs : Nat → Int32} (hC : am_C x cL_law RL 20 600384 7289322) (hX : lx_S x sb L xs) (hst : (am_l x).stackTraces = false) {h : am_H} (I : lx_I h) {n k z : Nat} (hn : 5 * n + 5 ≤ L) (hk : k + 14 ≤ 600384) (hz : z + 300 ≤ 7289322) (y5 y6 y7 : Option Value)
    (next : ∀ (h1 : am_H) (k1 z1 : Nat) (y5 y6 y7 : Option Value), lx_I h1 → k1 ≤ k + 14 → z1 ≤ z + 300 → lx_W x sb 1203 k1 z1 h1 [none, some (.ref 0), some (.ref 43), some (.ref 50), some (vI ((5 * n : Nat) : Int)), y5, y6, y7] []) :
    lx_W x sb 380 k z h [none, some (.ref 0), some (.ref 43), some (.ref 50), some (vI ((5 * n : Nat) : Int)), y5, y6, y7] [] := by
  obtain ⟨s, th, wd, R, f, v, e, ok, h47, ho⟩ := I
  refine lx_aload1 hC dL_law_380 ?_
  refine lx_int hC hX 1 dL_law_381 dL_law_382 dL_law_384 dL_law_385 dL_law_386 (by omega) ?_
  refine lx_int hC hX 2 dL_law_387 dL_law_388 dL_law_390 dL_law_391 dL_law_392 (by omega) ?_
  refine lx_aload3 hC dL_law_393 ?_
  refine lx_SH hC dL_law_394 hL_over (w_over _ _ hst v h47 ok (scrI_r _ _) (scrI_r _ _) ho) rfl rfl (Nat.le_of_ble_eq_true rfl) (by decide) (by omega) (by omega) (fun kq h1 q => ?_)
  obtain ⟨⟨ek, v1, g1, f1, o1, ov⟩, rv⟩ := q
  have b1 := g1.1
  have e1 := e.gx g1 (by omega) K46_q
  have k1 := e1.1
  refine lx_istore5 hC dL_law_397 rfl ?_
  refine lx_aload2 hC dL_law_399 ?_
  refine lx_int hC hX 1 dL_law_400 dL_law_401 dL_law_403 dL_law_404 dL_law_405 (by omega) ?_
  refine lx_int hC hX 2 dL_law_406 dL_law_407 dL_law_409 dL_law_410 dL_law_411 (by omega) ?_
  refine lx_V2_qI hC 5 dL_law_412 kL_85 (m_Mover _ _ e1 ok (scrI_r _ _) (scrI_r _ _)) k1 rfl (Nat.le_of_ble_eq_true rfl) (by decide) (by omega) (by omega) (fun b h2 q0 => ?_)
  have q := cv_over q0
  have sk : aOK (sp_over s (scrI xs (5 * n + 1)) (scrI xs (5 * n + 2))).2.1 ∧ 0 ≤ (sp_over s (scrI xs (5 * n + 1)) (scrI xs (5 * n + 2))).1 ∧ (sp_over s (scrI xs (5 * n + 1)) (scrI xs (5 * n + 2))).1 ≤ 3 := sk_over ok
  obtain ⟨Q, hQ⟩ : ∃ Q, Q = sp_over s (scrI xs (5 * n + 1)) (scrI xs (5 * n + 2)) := ⟨_, rfl⟩
  rw [← hQ] at q sk ek v1 ov rv
  obtain ⟨eb, ⟨wd2, R2, e2⟩, o2⟩ := q
  have b2 := o2.1
  have v2 := v1.on o2.gx (by omega) K45_q
  have o46 := (o2.2 50 (by decide)).trans o1
  subst ek
  refine lx_istore6 hC dL_law_415 rfl ?_
  refine lx_aload2 hC dL_law_417 ?_
  refine lx_V0_pI hC 5 dL_law_418 kL_72 (m_Mthrown _ _ e2) e2.1 rfl (Nat.le_of_ble_eq_true rfl) (by decide) (by omega) (by omega) ?_
  refine lx_iload5 hC dL_law_421 ?_
  refine lx_icmp_eq hC 428 dL_law_423 rfl (by omega) (by omega) (fun c => ?_) (fun c => absurd rfl c)
  refine lx_iload5 hC dL_law_428 ?_
  have fin : ∀ (k2 z2 : Nat) (y5 y6 y7 : Option Value), k2 ≤ k + 14 → z2 ≤ z + 300 → lx_W x sb 445 k2 z2 h2 [none, some (.ref 0), some (.ref 43), some (.ref 50), some (vI ((5 * n : Nat) : Int)), y5, y6, y7] [] := by
    intro k2 z2 y5 y6 y7 a1 a2
    refine lx_goto hC 1203 dL_law_445 rfl ?_
    exact next _ _ _ _ _ _ ⟨_, _, _, _, _, v2, e2, sk.1, by omega, o46⟩ a1 a2
  refine lx_if_ne hC 445 dL_law_430 rfl (by omega) (fun _ => fin _ _ _ _ _ (by omega) (by omega)) (fun c0 => ?_)
  refine lx_aload3 hC dL_law_433 ?_
  refine lx_iconst hC dL_law_434 ?_
  refine lx_lald hC dL_law_435 o46 (by omega) (by omega) ?_
  rw [show ((0 : Int)).toNat = 0 from rfl, ov c0, eb c0]
  have r := rv c0
  refine lx_iload6 hC dL_law_436 ?_
  refine lx_i2l hC dL_law_438 (by omega) ?_
  refine lx_lif_eq hC 445 dL_law_439 dL_law_440 rfl (by omega) (by omega) (fun _ => fin _ _ _ _ _ (by omega) (by omega)) (fun c => absurd rfl c)
theorem lc_order {x : am_X} {sb L : Nat} {xs : Nat → Int32} (hC : am_C x cL_law RL 20 600384 7289322) (hX : lx_S x sb L xs) (hst : (am_l x).stackTraces = false) {h : am_H} (I : lx_I h) {n k z : Nat} (hn : 5 * n + 5 ≤ L) (hk : k + 14 ≤ 600384) (hz : z + 300 ≤ 7289322) (y5 y6 y7 : Option Value)
    (next : ∀ (h1 : am_H) (k1 z1 : Nat) (y5 y6 y7 : Option Value), lx_I h1 → k1 ≤ k + 14 → z1 ≤ z + 300 → lx_W x sb 1203 k1 z1 h1 [none, some (.ref 0), some (.ref 43), some (.ref 50), some (vI ((5 * n : Nat) : Int)), y5, y6, y7] []) :
    lx_W x sb 448 k z h [none, some (.ref 0), some (.ref 43), some (.ref 50), some (vI ((5 * n : Nat) : Int)), y5, y6, y7] [] := by
  obtain ⟨s, th, wd, R, f, v, e, ok, h47, ho⟩ := I
  refine lx_aload1 hC dL_law_448 ?_
  refine lx_int hC hX 1 dL_law_449 dL_law_450 dL_law_452 dL_law_453 dL_law_454 (by omega) ?_
  refine lx_int hC hX 2 dL_law_455 dL_law_456 dL_law_458 dL_law_459 dL_law_460 (by omega) ?_
  refine lx_aload3 hC dL_law_461 ?_
  refine lx_SH hC dL_law_462 hL_order (w_order _ _ hst v h47 ok (scrI_r _ _) (scrI_r _ _) ho) rfl rfl (Nat.le_of_ble_eq_true rfl) (by decide) (by omega) (by omega) (fun kq h1 q => ?_)
  obtain ⟨⟨ek, v1, g1, f1, o1, ov⟩, rv⟩ := q
  have b1 := g1.1
  have e1 := e.gx g1 (by omega) K46_q
  have k1 := e1.1
  refine lx_istore5 hC dL_law_465 rfl ?_
  refine lx_aload2 hC dL_law_467 ?_
  refine lx_int hC hX 1 dL_law_468 dL_law_469 dL_law_471 dL_law_472 dL_law_473 (by omega) ?_
  refine lx_int hC hX 2 dL_law_474 dL_law_475 dL_law_477 dL_law_478 dL_law_479 (by omega) ?_
  refine lx_V2_qI hC 5 dL_law_480 kL_88 (m_Morder _ _ e1 ok (scrI_r _ _) (scrI_r _ _)) k1 rfl (Nat.le_of_ble_eq_true rfl) (by decide) (by omega) (by omega) (fun b h2 q0 => ?_)
  have q := cv_order q0
  have sk : aOK (sp_order s (scrI xs (5 * n + 1)) (scrI xs (5 * n + 2))).2.1 ∧ 0 ≤ (sp_order s (scrI xs (5 * n + 1)) (scrI xs (5 * n + 2))).1 ∧ (sp_order s (scrI xs (5 * n + 1)) (scrI xs (5 * n + 2))).1 ≤ 3 := sk_order ok
  obtain ⟨Q, hQ⟩ : ∃ Q, Q = sp_order s (scrI xs (5 * n + 1)) (scrI xs (5 * n + 2)) := ⟨_, rfl⟩
  rw [← hQ] at q sk ek v1 ov rv
  obtain ⟨eb, ⟨wd2, R2, e2⟩, o2⟩ := q
  have b2 := o2.1
  have v2 := v1.on o2.gx (by omega) K45_q
  have o46 := (o2.2 50 (by decide)).trans o1
  subst ek
  refine lx_istore6 hC dL_law_483 rfl ?_
  refine lx_aload2 hC dL_law_485 ?_
  refine lx_V0_pI hC 5 dL_law_486 kL_72 (m_Mthrown _ _ e2) e2.1 rfl (Nat.le_of_ble_eq_true rfl) (by decide) (by omega) (by omega) ?_
  refine lx_iload5 hC dL_law_489 ?_
  refine lx_icmp_eq hC 496 dL_law_491 rfl (by omega) (by omega) (fun c => ?_) (fun c => absurd rfl c)
  refine lx_iload5 hC dL_law_496 ?_
  have fin : ∀ (k2 z2 : Nat) (y5 y6 y7 : Option Value), k2 ≤ k + 14 → z2 ≤ z + 300 → lx_W x sb 513 k2 z2 h2 [none, some (.ref 0), some (.ref 43), some (.ref 50), some (vI ((5 * n : Nat) : Int)), y5, y6, y7] [] := by
    intro k2 z2 y5 y6 y7 a1 a2
    refine lx_goto hC 1203 dL_law_513 rfl ?_
    exact next _ _ _ _ _ _ ⟨_, _, _, _, _, v2, e2, sk.1, by omega, o46⟩ a1 a2
  refine lx_if_ne hC 513 dL_law_498 rfl (by omega) (fun _ => fin _ _ _ _ _ (by omega) (by omega)) (fun c0 => ?_)
  refine lx_aload3 hC dL_law_501 ?_
  refine lx_iconst hC dL_law_502 ?_
  refine lx_lald hC dL_law_503 o46 (by omega) (by omega) ?_
  rw [show ((0 : Int)).toNat = 0 from rfl, ov c0, eb c0]
  have r := rv c0
  refine lx_iload6 hC dL_law_504 ?_
  refine lx_i2l hC dL_law_506 (by omega) ?_
  refine lx_lif_eq hC 513 dL_law_507 dL_law_508 rfl (by omega) (by omega) (fun _ => fin _ _ _ _ _ (by omega) (by omega)) (fun c => absurd rfl c)
theorem lc_root {x : am_X} {sb L : Nat} {xs : Nat → Int32} (hC : am_C x cL_law RL 20 600384 7289322) (hX : lx_S x sb L xs) (hst : (am_l x).stackTraces = false) {h : am_H} (I : lx_I h) {n k z : Nat} (hn : 5 * n + 5 ≤ L) (hk : k + 14 ≤ 600384) (hz : z + 300 ≤ 7289322) (y5 y6 y7 : Option Value)
    (next : ∀ (h1 : am_H) (k1 z1 : Nat) (y5 y6 y7 : Option Value), lx_I h1 → k1 ≤ k + 14 → z1 ≤ z + 300 → lx_W x sb 1203 k1 z1 h1 [none, some (.ref 0), some (.ref 43), some (.ref 50), some (vI ((5 * n : Nat) : Int)), y5, y6, y7] []) :
    lx_W x sb 516 k z h [none, some (.ref 0), some (.ref 43), some (.ref 50), some (vI ((5 * n : Nat) : Int)), y5, y6, y7] [] := by
  obtain ⟨s, th, wd, R, f, v, e, ok, h47, ho⟩ := I
  refine lx_aload1 hC dL_law_516 ?_
  refine lx_int hC hX 1 dL_law_517 dL_law_518 dL_law_520 dL_law_521 dL_law_522 (by omega) ?_
  refine lx_int hC hX 2 dL_law_523 dL_law_524 dL_law_526 dL_law_527 dL_law_528 (by omega) ?_
  refine lx_aload3 hC dL_law_529 ?_
  refine lx_SH hC dL_law_530 hL_root (w_root _ _ hst v h47 ok (scrI_r _ _) (scrI_r _ _) ho) rfl rfl (Nat.le_of_ble_eq_true rfl) (by decide) (by omega) (by omega) (fun kq h1 q => ?_)
  obtain ⟨⟨ek, v1, g1, f1, o1, ov⟩, rv⟩ := q
  have b1 := g1.1
  have e1 := e.gx g1 (by omega) K46_q
  have k1 := e1.1
  refine lx_istore5 hC dL_law_533 rfl ?_
  refine lx_aload2 hC dL_law_535 ?_
  refine lx_int hC hX 1 dL_law_536 dL_law_537 dL_law_539 dL_law_540 dL_law_541 (by omega) ?_
  refine lx_int hC hX 2 dL_law_542 dL_law_543 dL_law_545 dL_law_546 dL_law_547 (by omega) ?_
  refine lx_V2_qI hC 5 dL_law_548 kL_91 (m_Mroot _ _ e1 ok (scrI_r _ _) (scrI_r _ _)) k1 rfl (Nat.le_of_ble_eq_true rfl) (by decide) (by omega) (by omega) (fun b h2 q0 => ?_)
  have q := cv_root q0
  have sk : aOK (sp_root s (scrI xs (5 * n + 1)) (scrI xs (5 * n + 2))).2.1 ∧ 0 ≤ (sp_root s (scrI xs (5 * n + 1)) (scrI xs (5 * n + 2))).1 ∧ (sp_root s (scrI xs (5 * n + 1)) (scrI xs (5 * n + 2))).1 ≤ 3 := sk_root ok
  obtain ⟨Q, hQ⟩ : ∃ Q, Q = sp_root s (scrI xs (5 * n + 1)) (scrI xs (5 * n + 2)) := ⟨_, rfl⟩
  rw [← hQ] at q sk ek v1 ov rv
  obtain ⟨eb, ⟨wd2, R2, e2⟩, o2⟩ := q
  have b2 := o2.1
  have v2 := v1.on o2.gx (by omega) K45_q
  have o46 := (o2.2 50 (by decide)).trans o1
  subst ek
  refine lx_istore6 hC dL_law_551 rfl ?_
  refine lx_aload2 hC dL_law_553 ?_
  refine lx_V0_pI hC 5 dL_law_554 kL_72 (m_Mthrown _ _ e2) e2.1 rfl (Nat.le_of_ble_eq_true rfl) (by decide) (by omega) (by omega) ?_
  refine lx_iload5 hC dL_law_557 ?_
  refine lx_icmp_eq hC 564 dL_law_559 rfl (by omega) (by omega) (fun c => ?_) (fun c => absurd rfl c)
  refine lx_iload5 hC dL_law_564 ?_
  have fin : ∀ (k2 z2 : Nat) (y5 y6 y7 : Option Value), k2 ≤ k + 14 → z2 ≤ z + 300 → lx_W x sb 581 k2 z2 h2 [none, some (.ref 0), some (.ref 43), some (.ref 50), some (vI ((5 * n : Nat) : Int)), y5, y6, y7] [] := by
    intro k2 z2 y5 y6 y7 a1 a2
    refine lx_goto hC 1203 dL_law_581 rfl ?_
    exact next _ _ _ _ _ _ ⟨_, _, _, _, _, v2, e2, sk.1, by omega, o46⟩ a1 a2
  refine lx_if_ne hC 581 dL_law_566 rfl (by omega) (fun _ => fin _ _ _ _ _ (by omega) (by omega)) (fun c0 => ?_)
  refine lx_aload3 hC dL_law_569 ?_
  refine lx_iconst hC dL_law_570 ?_
  refine lx_lald hC dL_law_571 o46 (by omega) (by omega) ?_
  rw [show ((0 : Int)).toNat = 0 from rfl, ov c0, eb c0]
  have r := rv c0
  refine lx_iload6 hC dL_law_572 ?_
  refine lx_i2l hC dL_law_574 (by omega) ?_
  refine lx_lif_eq hC 581 dL_law_575 dL_law_576 rfl (by omega) (by omega) (fun _ => fin _ _ _ _ _ (by omega) (by omega)) (fun c => absurd rfl c)
theorem lc_end {x : am_X} {sb L : Nat} {xs : Nat → Int32} (hC : am_C x cL_law RL 20 600384 7289322) (hX : lx_S x sb L xs) (hst : (am_l x).stackTraces = false) {h : am_H} (I : lx_I h) {n k z : Nat} (hn : 5 * n + 5 ≤ L) (hk : k + 14 ≤ 600384) (hz : z + 300 ≤ 7289322) (y5 y6 y7 : Option Value)
    (next : ∀ (h1 : am_H) (k1 z1 : Nat) (y5 y6 y7 : Option Value), lx_I h1 → k1 ≤ k + 14 → z1 ≤ z + 300 → lx_W x sb 1203 k1 z1 h1 [none, some (.ref 0), some (.ref 43), some (.ref 50), some (vI ((5 * n : Nat) : Int)), y5, y6, y7] []) :
    lx_W x sb 584 k z h [none, some (.ref 0), some (.ref 43), some (.ref 50), some (vI ((5 * n : Nat) : Int)), y5, y6, y7] [] := by
  obtain ⟨s, th, wd, R, f, v, e, ok, h47, ho⟩ := I
  refine lx_aload1 hC dL_law_584 ?_
  refine lx_int hC hX 1 dL_law_585 dL_law_586 dL_law_588 dL_law_589 dL_law_590 (by omega) ?_
  refine lx_int hC hX 2 dL_law_591 dL_law_592 dL_law_594 dL_law_595 dL_law_596 (by omega) ?_
  refine lx_aload3 hC dL_law_597 ?_
  refine lx_SH hC dL_law_598 hL_end (w_end _ _ hst v h47 ok (scrI_r _ _) (scrI_r _ _) ho) rfl rfl (Nat.le_of_ble_eq_true rfl) (by decide) (by omega) (by omega) (fun kq h1 q => ?_)
  obtain ⟨⟨ek, v1, g1, f1, o1, ov⟩, rv⟩ := q
  have b1 := g1.1
  have e1 := e.gx g1 (by omega) K46_q
  have k1 := e1.1
  refine lx_istore5 hC dL_law_601 rfl ?_
  refine lx_aload2 hC dL_law_603 ?_
  refine lx_int hC hX 1 dL_law_604 dL_law_605 dL_law_607 dL_law_608 dL_law_609 (by omega) ?_
  refine lx_int hC hX 2 dL_law_610 dL_law_611 dL_law_613 dL_law_614 dL_law_615 (by omega) ?_
  refine lx_V2_qI hC 5 dL_law_616 kL_94 (m_Mend _ _ e1 (scrI_r _ _) (scrI_r _ _)) k1 rfl (Nat.le_of_ble_eq_true rfl) (by decide) (by omega) (by omega) (fun b h2 q0 => ?_)
  have q := cv_end q0
  have sk : aOK (sp_end s (scrI xs (5 * n + 1)) (scrI xs (5 * n + 2))).2.1 ∧ 0 ≤ (sp_end s (scrI xs (5 * n + 1)) (scrI xs (5 * n + 2))).1 ∧ (sp_end s (scrI xs (5 * n + 1)) (scrI xs (5 * n + 2))).1 ≤ 3 := sk_end ok
  obtain ⟨Q, hQ⟩ : ∃ Q, Q = sp_end s (scrI xs (5 * n + 1)) (scrI xs (5 * n + 2)) := ⟨_, rfl⟩
  rw [← hQ] at q sk ek v1 ov rv
  obtain ⟨eb, ⟨wd2, R2, e2⟩, o2⟩ := q
  have b2 := o2.1
  have v2 := v1.on o2.gx (by omega) K45_q
  have o46 := (o2.2 50 (by decide)).trans o1
  subst ek
  refine lx_istore6 hC dL_law_619 rfl ?_
  refine lx_aload2 hC dL_law_621 ?_
  refine lx_V0_pI hC 5 dL_law_622 kL_72 (m_Mthrown _ _ e2) e2.1 rfl (Nat.le_of_ble_eq_true rfl) (by decide) (by omega) (by omega) ?_
  refine lx_iload5 hC dL_law_625 ?_
  refine lx_icmp_eq hC 632 dL_law_627 rfl (by omega) (by omega) (fun c => ?_) (fun c => absurd rfl c)
  refine lx_iload5 hC dL_law_632 ?_
  have fin : ∀ (k2 z2 : Nat) (y5 y6 y7 : Option Value), k2 ≤ k + 14 → z2 ≤ z + 300 → lx_W x sb 649 k2 z2 h2 [none, some (.ref 0), some (.ref 43), some (.ref 50), some (vI ((5 * n : Nat) : Int)), y5, y6, y7] [] := by
    intro k2 z2 y5 y6 y7 a1 a2
    refine lx_goto hC 1203 dL_law_649 rfl ?_
    exact next _ _ _ _ _ _ ⟨_, _, _, _, _, v2, e2, sk.1, by omega, o46⟩ a1 a2
  refine lx_if_ne hC 649 dL_law_634 rfl (by omega) (fun _ => fin _ _ _ _ _ (by omega) (by omega)) (fun c0 => ?_)
  refine lx_aload3 hC dL_law_637 ?_
  refine lx_iconst hC dL_law_638 ?_
  refine lx_lald hC dL_law_639 o46 (by omega) (by omega) ?_
  rw [show ((0 : Int)).toNat = 0 from rfl, ov c0, eb c0]
  have r := rv c0
  refine lx_iload6 hC dL_law_640 ?_
  refine lx_i2l hC dL_law_642 (by omega) ?_
  refine lx_lif_eq hC 649 dL_law_643 dL_law_644 rfl (by omega) (by omega) (fun _ => fin _ _ _ _ _ (by omega) (by omega)) (fun c => absurd rfl c)
theorem lc_round {x : am_X} {sb L : Nat} {xs : Nat → Int32} (hC : am_C x cL_law RL 20 600384 7289322) (hX : lx_S x sb L xs) (hst : (am_l x).stackTraces = false) {h : am_H} (I : lx_I h) {n k z : Nat} (hn : 5 * n + 5 ≤ L) (hk : k + 14 ≤ 600384) (hz : z + 300 ≤ 7289322) (y5 y6 y7 : Option Value)
    (next : ∀ (h1 : am_H) (k1 z1 : Nat) (y5 y6 y7 : Option Value), lx_I h1 → k1 ≤ k + 14 → z1 ≤ z + 300 → lx_W x sb 1203 k1 z1 h1 [none, some (.ref 0), some (.ref 43), some (.ref 50), some (vI ((5 * n : Nat) : Int)), y5, y6, y7] []) :
    lx_W x sb 652 k z h [none, some (.ref 0), some (.ref 43), some (.ref 50), some (vI ((5 * n : Nat) : Int)), y5, y6, y7] [] := by
  obtain ⟨s, th, wd, R, f, v, e, ok, h47, ho⟩ := I
  refine lx_aload1 hC dL_law_652 ?_
  refine lx_int hC hX 1 dL_law_653 dL_law_654 dL_law_656 dL_law_657 dL_law_658 (by omega) ?_
  refine lx_int hC hX 2 dL_law_659 dL_law_660 dL_law_662 dL_law_663 dL_law_664 (by omega) ?_
  refine lx_long hC hX 3 cL_64 dL_law_665 dL_law_666 dL_law_668 dL_law_669 dL_law_670 dL_law_671 dL_law_672 dL_law_674 dL_law_675 dL_law_676 dL_law_678 dL_law_679 dL_law_680 dL_law_681 dL_law_682 dL_law_685 dL_law_686 (by omega) ?_
  refine lx_aload3 hC dL_law_687 ?_
  refine lx_SH hC dL_law_688 hL_round (w_round _ _ hst v h47 ok (scrI_r _ _) (scrI_r _ _) (scrJ_r _ _) ho) rfl rfl (Nat.le_of_ble_eq_true rfl) (by decide) (by omega) (by omega) (fun kq h1 q => ?_)
  obtain ⟨⟨ek, v1, g1, f1, o1, ov⟩, rv⟩ := q
  have b1 := g1.1
  have e1 := e.gx g1 (by omega) K46_q
  have k1 := e1.1
  refine lx_istore5 hC dL_law_691 rfl ?_
  refine lx_aload2 hC dL_law_693 ?_
  refine lx_int hC hX 1 dL_law_694 dL_law_695 dL_law_697 dL_law_698 dL_law_699 (by omega) ?_
  refine lx_int hC hX 2 dL_law_700 dL_law_701 dL_law_703 dL_law_704 dL_law_705 (by omega) ?_
  refine lx_long hC hX 3 cL_64 dL_law_706 dL_law_707 dL_law_709 dL_law_710 dL_law_711 dL_law_712 dL_law_713 dL_law_715 dL_law_716 dL_law_717 dL_law_719 dL_law_720 dL_law_721 dL_law_722 dL_law_723 dL_law_726 dL_law_727 (by omega) ?_
  refine lx_V3_qI hC 5 dL_law_728 kL_98 (m_Mround _ _ e1 ok (scrI_r _ _) (scrI_r _ _) (scrJ_r _ _)) k1 rfl (Nat.le_of_ble_eq_true rfl) (by decide) (by omega) (by omega) (fun b h2 q0 => ?_)
  have q := cv_round q0
  have sk : aOK (sp_round s (scrI xs (5 * n + 1)) (scrI xs (5 * n + 2)) (scrJ xs (5 * n + 3))).2.1 ∧ 0 ≤ (sp_round s (scrI xs (5 * n + 1)) (scrI xs (5 * n + 2)) (scrJ xs (5 * n + 3))).1 ∧ (sp_round s (scrI xs (5 * n + 1)) (scrI xs (5 * n + 2)) (scrJ xs (5 * n + 3))).1 ≤ 3 := sk_round ok
  obtain ⟨Q, hQ⟩ : ∃ Q, Q = sp_round s (scrI xs (5 * n + 1)) (scrI xs (5 * n + 2)) (scrJ xs (5 * n + 3)) := ⟨_, rfl⟩
  rw [← hQ] at q sk ek v1 ov rv
  obtain ⟨eb, ⟨wd2, R2, e2⟩, o2⟩ := q
  have b2 := o2.1
  have v2 := v1.on o2.gx (by omega) K45_q
  have o46 := (o2.2 50 (by decide)).trans o1
  subst ek
  refine lx_istore6 hC dL_law_731 rfl ?_
  refine lx_aload2 hC dL_law_733 ?_
  refine lx_V0_pI hC 5 dL_law_734 kL_72 (m_Mthrown _ _ e2) e2.1 rfl (Nat.le_of_ble_eq_true rfl) (by decide) (by omega) (by omega) ?_
  refine lx_iload5 hC dL_law_737 ?_
  refine lx_icmp_eq hC 744 dL_law_739 rfl (by omega) (by omega) (fun c => ?_) (fun c => absurd rfl c)
  refine lx_iload5 hC dL_law_744 ?_
  have fin : ∀ (k2 z2 : Nat) (y5 y6 y7 : Option Value), k2 ≤ k + 14 → z2 ≤ z + 300 → lx_W x sb 761 k2 z2 h2 [none, some (.ref 0), some (.ref 43), some (.ref 50), some (vI ((5 * n : Nat) : Int)), y5, y6, y7] [] := by
    intro k2 z2 y5 y6 y7 a1 a2
    refine lx_goto hC 1203 dL_law_761 rfl ?_
    exact next _ _ _ _ _ _ ⟨_, _, _, _, _, v2, e2, sk.1, by omega, o46⟩ a1 a2
  refine lx_if_ne hC 761 dL_law_746 rfl (by omega) (fun _ => fin _ _ _ _ _ (by omega) (by omega)) (fun c0 => ?_)
  refine lx_aload3 hC dL_law_749 ?_
  refine lx_iconst hC dL_law_750 ?_
  refine lx_lald hC dL_law_751 o46 (by omega) (by omega) ?_
  rw [show ((0 : Int)).toNat = 0 from rfl, ov c0, eb c0]
  have r := rv c0
  refine lx_iload6 hC dL_law_752 ?_
  refine lx_i2l hC dL_law_754 (by omega) ?_
  refine lx_lif_eq hC 761 dL_law_755 dL_law_756 rfl (by omega) (by omega) (fun _ => fin _ _ _ _ _ (by omega) (by omega)) (fun c => absurd rfl c)
theorem lc_turn {x : am_X} {sb L : Nat} {xs : Nat → Int32} (hC : am_C x cL_law RL 20 600384 7289322) (hX : lx_S x sb L xs) (hst : (am_l x).stackTraces = false) {h : am_H} (I : lx_I h) {n k z : Nat} (hn : 5 * n + 5 ≤ L) (hk : k + 14 ≤ 600384) (hz : z + 300 ≤ 7289322) (y5 y6 y7 : Option Value)
    (next : ∀ (h1 : am_H) (k1 z1 : Nat) (y5 y6 y7 : Option Value), lx_I h1 → k1 ≤ k + 14 → z1 ≤ z + 300 → lx_W x sb 1203 k1 z1 h1 [none, some (.ref 0), some (.ref 43), some (.ref 50), some (vI ((5 * n : Nat) : Int)), y5, y6, y7] []) :
    lx_W x sb 764 k z h [none, some (.ref 0), some (.ref 43), some (.ref 50), some (vI ((5 * n : Nat) : Int)), y5, y6, y7] [] := by
  obtain ⟨s, th, wd, R, f, v, e, ok, h47, ho⟩ := I
  refine lx_aload1 hC dL_law_764 ?_
  refine lx_int hC hX 1 dL_law_765 dL_law_766 dL_law_768 dL_law_769 dL_law_770 (by omega) ?_
  refine lx_int hC hX 2 dL_law_771 dL_law_772 dL_law_774 dL_law_775 dL_law_776 (by omega) ?_
  refine lx_int hC hX 3 dL_law_777 dL_law_778 dL_law_780 dL_law_781 dL_law_782 (by omega) ?_
  refine lx_aload3 hC dL_law_783 ?_
  refine lx_SH hC dL_law_784 hL_turn (w_turn _ _ hst v h47 ok (scrI_r _ _) (scrI_r _ _) (scrI_r _ _) ho) rfl rfl (Nat.le_of_ble_eq_true rfl) (by decide) (by omega) (by omega) (fun kq h1 q => ?_)
  obtain ⟨⟨ek, v1, g1, f1, o1, ov⟩, rv⟩ := q
  have b1 := g1.1
  have e1 := e.gx g1 (by omega) K46_q
  have k1 := e1.1
  refine lx_istore5 hC dL_law_787 rfl ?_
  refine lx_aload2 hC dL_law_789 ?_
  refine lx_int hC hX 1 dL_law_790 dL_law_791 dL_law_793 dL_law_794 dL_law_795 (by omega) ?_
  refine lx_int hC hX 2 dL_law_796 dL_law_797 dL_law_799 dL_law_800 dL_law_801 (by omega) ?_
  refine lx_int hC hX 3 dL_law_802 dL_law_803 dL_law_805 dL_law_806 dL_law_807 (by omega) ?_
  refine lx_V3_qI hC 5 dL_law_808 kL_102 (m_Mturn _ _ e1 ok (scrI_r _ _) (scrI_r _ _) (scrI_r _ _)) k1 rfl (Nat.le_of_ble_eq_true rfl) (by decide) (by omega) (by omega) (fun b h2 q0 => ?_)
  have q := cv_turn q0
  have sk : aOK (sp_turn s (scrI xs (5 * n + 1)) (scrI xs (5 * n + 2)) (scrI xs (5 * n + 3))).2.1 ∧ 0 ≤ (sp_turn s (scrI xs (5 * n + 1)) (scrI xs (5 * n + 2)) (scrI xs (5 * n + 3))).1 ∧ (sp_turn s (scrI xs (5 * n + 1)) (scrI xs (5 * n + 2)) (scrI xs (5 * n + 3))).1 ≤ 3 := sk_turn ok
  obtain ⟨Q, hQ⟩ : ∃ Q, Q = sp_turn s (scrI xs (5 * n + 1)) (scrI xs (5 * n + 2)) (scrI xs (5 * n + 3)) := ⟨_, rfl⟩
  rw [← hQ] at q sk ek v1 ov rv
  obtain ⟨eb, ⟨wd2, R2, e2⟩, o2⟩ := q
  have b2 := o2.1
  have v2 := v1.on o2.gx (by omega) K45_q
  have o46 := (o2.2 50 (by decide)).trans o1
  subst ek
  refine lx_istore6 hC dL_law_811 rfl ?_
  refine lx_aload2 hC dL_law_813 ?_
  refine lx_V0_pI hC 5 dL_law_814 kL_72 (m_Mthrown _ _ e2) e2.1 rfl (Nat.le_of_ble_eq_true rfl) (by decide) (by omega) (by omega) ?_
  refine lx_iload5 hC dL_law_817 ?_
  refine lx_icmp_eq hC 824 dL_law_819 rfl (by omega) (by omega) (fun c => ?_) (fun c => absurd rfl c)
  refine lx_iload5 hC dL_law_824 ?_
  have fin : ∀ (k2 z2 : Nat) (y5 y6 y7 : Option Value), k2 ≤ k + 14 → z2 ≤ z + 300 → lx_W x sb 841 k2 z2 h2 [none, some (.ref 0), some (.ref 43), some (.ref 50), some (vI ((5 * n : Nat) : Int)), y5, y6, y7] [] := by
    intro k2 z2 y5 y6 y7 a1 a2
    refine lx_goto hC 1203 dL_law_841 rfl ?_
    exact next _ _ _ _ _ _ ⟨_, _, _, _, _, v2, e2, sk.1, by omega, o46⟩ a1 a2
  refine lx_if_ne hC 841 dL_law_826 rfl (by omega) (fun _ => fin _ _ _ _ _ (by omega) (by omega)) (fun c0 => ?_)
  refine lx_aload3 hC dL_law_829 ?_
  refine lx_iconst hC dL_law_830 ?_
  refine lx_lald hC dL_law_831 o46 (by omega) (by omega) ?_
  rw [show ((0 : Int)).toNat = 0 from rfl, ov c0, eb c0]
  have r := rv c0
  refine lx_iload6 hC dL_law_832 ?_
  refine lx_i2l hC dL_law_834 (by omega) ?_
  refine lx_lif_eq hC 841 dL_law_835 dL_law_836 rfl (by omega) (by omega) (fun _ => fin _ _ _ _ _ (by omega) (by omega)) (fun c => absurd rfl c)
theorem lc_weight {x : am_X} {sb L : Nat} {xs : Nat → Int32} (hC : am_C x cL_law RL 20 600384 7289322) (hX : lx_S x sb L xs) (hst : (am_l x).stackTraces = false) {h : am_H} (I : lx_I h) {n k z : Nat} (hn : 5 * n + 5 ≤ L) (hk : k + 14 ≤ 600384) (hz : z + 300 ≤ 7289322) (y5 y6 y7 : Option Value)
    (next : ∀ (h1 : am_H) (k1 z1 : Nat) (y5 y6 y7 : Option Value), lx_I h1 → k1 ≤ k + 14 → z1 ≤ z + 300 → lx_W x sb 1203 k1 z1 h1 [none, some (.ref 0), some (.ref 43), some (.ref 50), some (vI ((5 * n : Nat) : Int)), y5, y6, y7] []) :
    lx_W x sb 844 k z h [none, some (.ref 0), some (.ref 43), some (.ref 50), some (vI ((5 * n : Nat) : Int)), y5, y6, y7] [] := by
  obtain ⟨s, th, wd, R, f, v, e, ok, h47, ho⟩ := I
  refine lx_aload1 hC dL_law_844 ?_
  refine lx_long hC hX 1 cL_64 dL_law_845 dL_law_846 dL_law_848 dL_law_849 dL_law_850 dL_law_851 dL_law_852 dL_law_854 dL_law_855 dL_law_856 dL_law_858 dL_law_859 dL_law_860 dL_law_861 dL_law_862 dL_law_865 dL_law_866 (by omega) ?_
  refine lx_V1_qI hC 4 dL_law_867 kL_103 (m_weight _ _ v (by omega) ok (scrJ_r _ _)) v.1 rfl (Nat.le_of_ble_eq_true rfl) (by decide) (by omega) (by omega) (fun r h1 q => ?_)
  obtain ⟨er, v1, g1⟩ := q
  have b1 := g1.1
  have e1 := e.gx g1 (by omega) K39_q
  have k1 := e1.1
  refine lx_aload2 hC dL_law_870 ?_
  refine lx_long hC hX 1 cL_64 dL_law_871 dL_law_872 dL_law_874 dL_law_875 dL_law_876 dL_law_877 dL_law_878 dL_law_880 dL_law_881 dL_law_882 dL_law_884 dL_law_885 dL_law_886 dL_law_887 dL_law_888 dL_law_891 dL_law_892 (by omega) ?_
  refine lx_V1_qI hC 5 dL_law_893 kL_107 (m_Mweight _ _ e1 ok (scrJ_r _ _)) k1 rfl (Nat.le_of_ble_eq_true rfl) (by decide) (by omega) (by omega) (fun b h2 q => ?_)
  obtain ⟨eb, ⟨wd2, R2, e2⟩, o2⟩ := q
  have b2 := o2.1
  subst er
  subst eb
  obtain ⟨u, hu, eu⟩ := vI_wrap (aWeight s (scrJ xs (5 * n + 1))).1
  rw [eu]
  refine lx_icmp_eq hC 1203 dL_law_896 rfl (by omega) (by omega) (fun c => ?_) (fun c => absurd rfl c)
  exact next _ _ _ _ _ _ ⟨_, _, _, _, f, v1.on o2.gx (by omega) K45_q, e2, ok_weight ok, by omega, (o2.2 50 (by decide)).trans ((g1.2 50 (by omega) (fun c => by have := K39_lt _ c; omega)).trans ho)⟩ (by omega) (by omega)
theorem lc_clearWeights {x : am_X} {sb L : Nat} {xs : Nat → Int32} (hC : am_C x cL_law RL 20 600384 7289322) (hX : lx_S x sb L xs) (hst : (am_l x).stackTraces = false) {h : am_H} (I : lx_I h) {n k z : Nat} (hn : 5 * n + 5 ≤ L) (hk : k + 14 ≤ 600384) (hz : z + 300 ≤ 7289322) (y5 y6 y7 : Option Value)
    (next : ∀ (h1 : am_H) (k1 z1 : Nat) (y5 y6 y7 : Option Value), lx_I h1 → k1 ≤ k + 14 → z1 ≤ z + 300 → lx_W x sb 1203 k1 z1 h1 [none, some (.ref 0), some (.ref 43), some (.ref 50), some (vI ((5 * n : Nat) : Int)), y5, y6, y7] []) :
    lx_W x sb 901 k z h [none, some (.ref 0), some (.ref 43), some (.ref 50), some (vI ((5 * n : Nat) : Int)), y5, y6, y7] [] := by
  obtain ⟨s, th, wd, R, f, v, e, ok, h47, ho⟩ := I
  refine lx_aload1 hC dL_law_901 ?_
  refine lx_V0_qN hC 4 dL_law_902 kL_108 (m_clearWeights _ _ v (by omega)) v.1 rfl (Nat.le_of_ble_eq_true rfl) (by decide) (by omega) (by omega) (fun h1 q => ?_)
  obtain ⟨v1, g1⟩ := q
  have b1 := g1.1
  have e1 := e.gx g1 (by omega) K39_q
  have k1 := e1.1
  refine lx_aload2 hC dL_law_905 ?_
  refine lx_V0_qN hC 5 dL_law_906 kL_111 (m_Mclear _ _ e1) k1 rfl (Nat.le_of_ble_eq_true rfl) (by decide) (by omega) (by omega) (fun h2 q => ?_)
  obtain ⟨⟨wd2, R2, e2⟩, o2⟩ := q
  have b2 := o2.1
  refine lx_goto hC 1203 dL_law_909 rfl ?_
  exact next _ _ _ _ _ _ ⟨_, _, _, _, f, v1.on o2.gx (by omega) K45_q, e2, ok_clear ok, by omega, (o2.2 50 (by decide)).trans ((g1.2 50 (by omega) (fun c => by have := K39_lt _ c; omega)).trans ho)⟩ (by omega) (by omega)
theorem lc_share {x : am_X} {sb L : Nat} {xs : Nat → Int32} (hC : am_C x cL_law RL 20 600384 7289322) (hX : lx_S x sb L xs) (hst : (am_l x).stackTraces = false) {h : am_H} (I : lx_I h) {n k z : Nat} (hn : 5 * n + 5 ≤ L) (hk : k + 14 ≤ 600384) (hz : z + 300 ≤ 7289322) (y5 y6 y7 : Option Value)
    (next : ∀ (h1 : am_H) (k1 z1 : Nat) (y5 y6 y7 : Option Value), lx_I h1 → k1 ≤ k + 14 → z1 ≤ z + 300 → lx_W x sb 1203 k1 z1 h1 [none, some (.ref 0), some (.ref 43), some (.ref 50), some (vI ((5 * n : Nat) : Int)), y5, y6, y7] []) :
    lx_W x sb 912 k z h [none, some (.ref 0), some (.ref 43), some (.ref 50), some (vI ((5 * n : Nat) : Int)), y5, y6, y7] [] := by
  obtain ⟨s, th, wd, R, f, v, e, ok, h47, ho⟩ := I
  refine lx_aload1 hC dL_law_912 ?_
  refine lx_long hC hX 1 cL_64 dL_law_913 dL_law_914 dL_law_916 dL_law_917 dL_law_918 dL_law_919 dL_law_920 dL_law_922 dL_law_923 dL_law_924 dL_law_926 dL_law_927 dL_law_928 dL_law_929 dL_law_930 dL_law_933 dL_law_934 (by omega) ?_
  refine lx_int hC hX 3 dL_law_935 dL_law_936 dL_law_938 dL_law_939 dL_law_940 (by omega) ?_
  refine lx_aload3 hC dL_law_941 ?_
  refine lx_SH hC dL_law_942 hL_share (w_share _ _ hst v h47 ok (scrJ_r _ _) (scrI_r _ _) ho) rfl rfl (Nat.le_of_ble_eq_true rfl) (by decide) (by omega) (by omega) (fun kq h1 q => ?_)
  obtain ⟨ek, v1, g1, f1, o1, ov⟩ := q
  have b1 := g1.1
  have e1 := e.gx g1 (by omega) K46_q
  have k1 := e1.1
  refine lx_istore5 hC dL_law_945 rfl ?_
  refine lx_aload2 hC dL_law_947 ?_
  refine lx_long hC hX 1 cL_64 dL_law_948 dL_law_949 dL_law_951 dL_law_952 dL_law_953 dL_law_954 dL_law_955 dL_law_957 dL_law_958 dL_law_959 dL_law_961 dL_law_962 dL_law_963 dL_law_964 dL_law_965 dL_law_968 dL_law_969 (by omega) ?_
  refine lx_int hC hX 3 dL_law_970 dL_law_971 dL_law_973 dL_law_974 dL_law_975 (by omega) ?_
  refine lx_V2_qL hC 5 dL_law_976 kL_115 (m_Mshare _ _ e1 ok.2.2.2.2.2 (scrJ_r _ _) (scrI_r _ _)) k1 rfl (Nat.le_of_ble_eq_true rfl) (by decide) (by omega) (by omega) (fun b h2 q0 => ?_)
  have q := cv_share q0
  have sk : aOK (sp_share s (scrJ xs (5 * n + 1)) (scrI xs (5 * n + 3))).2.1 ∧ 0 ≤ (sp_share s (scrJ xs (5 * n + 1)) (scrI xs (5 * n + 3))).1 ∧ (sp_share s (scrJ xs (5 * n + 1)) (scrI xs (5 * n + 3))).1 ≤ 3 := sk_share ok
  obtain ⟨Q, hQ⟩ : ∃ Q, Q = sp_share s (scrJ xs (5 * n + 1)) (scrI xs (5 * n + 3)) := ⟨_, rfl⟩
  rw [← hQ] at q sk ek v1 ov
  obtain ⟨eb, ⟨wd2, R2, e2⟩, o2⟩ := q
  have b2 := o2.1
  have v2 := v1.on o2.gx (by omega) K45_q
  have o46 := (o2.2 50 (by decide)).trans o1
  subst ek
  refine lx_lstore6 hC dL_law_979 rfl ?_
  refine lx_aload2 hC dL_law_981 ?_
  refine lx_V0_pI hC 5 dL_law_982 kL_72 (m_Mthrown _ _ e2) e2.1 rfl (Nat.le_of_ble_eq_true rfl) (by decide) (by omega) (by omega) ?_
  refine lx_iload5 hC dL_law_985 ?_
  refine lx_icmp_eq hC 992 dL_law_987 rfl (by omega) (by omega) (fun c => ?_) (fun c => absurd rfl c)
  refine lx_iload5 hC dL_law_992 ?_
  have fin : ∀ (k2 z2 : Nat) (y5 y6 y7 : Option Value), k2 ≤ k + 14 → z2 ≤ z + 300 → lx_W x sb 1008 k2 z2 h2 [none, some (.ref 0), some (.ref 43), some (.ref 50), some (vI ((5 * n : Nat) : Int)), y5, y6, y7] [] := by
    intro k2 z2 y5 y6 y7 a1 a2
    refine lx_goto hC 1203 dL_law_1008 rfl ?_
    exact next _ _ _ _ _ _ ⟨_, _, _, _, _, v2, e2, sk.1, by omega, o46⟩ a1 a2
  refine lx_if_ne hC 1008 dL_law_994 rfl (by omega) (fun _ => fin _ _ _ _ _ (by omega) (by omega)) (fun c0 => ?_)
  refine lx_aload3 hC dL_law_997 ?_
  refine lx_iconst hC dL_law_998 ?_
  refine lx_lald hC dL_law_999 o46 (by omega) (by omega) ?_
  rw [show ((0 : Int)).toNat = 0 from rfl, ov c0, eb c0]
  refine lx_lload6 hC dL_law_1000 ?_
  obtain ⟨u, hu, eu⟩ := vL_wrap Q.2.2
  rw [eu]
  refine lx_lif_eq hC 1008 dL_law_1002 dL_law_1003 rfl (by omega) (by omega) (fun _ => fin _ _ _ _ _ (by omega) (by omega)) (fun c => absurd rfl c)
theorem lc_digit {x : am_X} {sb L : Nat} {xs : Nat → Int32} (hC : am_C x cL_law RL 20 600384 7289322) (hX : lx_S x sb L xs) (hst : (am_l x).stackTraces = false) {h : am_H} (I : lx_I h) {n k z : Nat} (hn : 5 * n + 5 ≤ L) (hk : k + 14 ≤ 600384) (hz : z + 300 ≤ 7289322) (y5 y6 y7 : Option Value)
    (next : ∀ (h1 : am_H) (k1 z1 : Nat) (y5 y6 y7 : Option Value), lx_I h1 → k1 ≤ k + 14 → z1 ≤ z + 300 → lx_W x sb 1203 k1 z1 h1 [none, some (.ref 0), some (.ref 43), some (.ref 50), some (vI ((5 * n : Nat) : Int)), y5, y6, y7] []) :
    lx_W x sb 1011 k z h [none, some (.ref 0), some (.ref 43), some (.ref 50), some (vI ((5 * n : Nat) : Int)), y5, y6, y7] [] := by
  obtain ⟨s, th, wd, R, f, v, e, ok, h47, ho⟩ := I
  refine lx_aload1 hC dL_law_1011 ?_
  refine lx_int hC hX 1 dL_law_1012 dL_law_1013 dL_law_1015 dL_law_1016 dL_law_1017 (by omega) ?_
  refine lx_int hC hX 2 dL_law_1018 dL_law_1019 dL_law_1021 dL_law_1022 dL_law_1023 (by omega) ?_
  refine lx_int hC hX 3 dL_law_1024 dL_law_1025 dL_law_1027 dL_law_1028 dL_law_1029 (by omega) ?_
  refine lx_aload3 hC dL_law_1030 ?_
  refine lx_SH hC dL_law_1031 hL_digit (w_digit _ _ hst v h47 ok (scrI_r _ _) (scrI_r _ _) (scrI_r _ _) ho) rfl rfl (Nat.le_of_ble_eq_true rfl) (by decide) (by omega) (by omega) (fun kq h1 q => ?_)
  obtain ⟨⟨ek, v1, g1, f1, o1, ov⟩, rv⟩ := q
  have b1 := g1.1
  have e1 := e.gx g1 (by omega) K46_q
  have k1 := e1.1
  refine lx_istore5 hC dL_law_1034 rfl ?_
  refine lx_aload2 hC dL_law_1036 ?_
  refine lx_int hC hX 1 dL_law_1037 dL_law_1038 dL_law_1040 dL_law_1041 dL_law_1042 (by omega) ?_
  refine lx_int hC hX 2 dL_law_1043 dL_law_1044 dL_law_1046 dL_law_1047 dL_law_1048 (by omega) ?_
  refine lx_int hC hX 3 dL_law_1049 dL_law_1050 dL_law_1052 dL_law_1053 dL_law_1054 (by omega) ?_
  refine lx_V3_qI hC 5 dL_law_1055 kL_118 (m_Mdigit _ _ e1 ok (scrI_r _ _) (scrI_r _ _) (scrI_r _ _)) k1 rfl (Nat.le_of_ble_eq_true rfl) (by decide) (by omega) (by omega) (fun b h2 q0 => ?_)
  have q := cv_digit q0
  have sk : aOK (sp_digit s (scrI xs (5 * n + 1)) (scrI xs (5 * n + 2)) (scrI xs (5 * n + 3))).2.1 ∧ 0 ≤ (sp_digit s (scrI xs (5 * n + 1)) (scrI xs (5 * n + 2)) (scrI xs (5 * n + 3))).1 ∧ (sp_digit s (scrI xs (5 * n + 1)) (scrI xs (5 * n + 2)) (scrI xs (5 * n + 3))).1 ≤ 3 := sk_digit ok
  obtain ⟨Q, hQ⟩ : ∃ Q, Q = sp_digit s (scrI xs (5 * n + 1)) (scrI xs (5 * n + 2)) (scrI xs (5 * n + 3)) := ⟨_, rfl⟩
  rw [← hQ] at q sk ek v1 ov rv
  obtain ⟨eb, ⟨wd2, R2, e2⟩, o2⟩ := q
  have b2 := o2.1
  have v2 := v1.on o2.gx (by omega) K45_q
  have o46 := (o2.2 50 (by decide)).trans o1
  subst ek
  refine lx_istore6 hC dL_law_1058 rfl ?_
  refine lx_aload2 hC dL_law_1060 ?_
  refine lx_V0_pI hC 5 dL_law_1061 kL_72 (m_Mthrown _ _ e2) e2.1 rfl (Nat.le_of_ble_eq_true rfl) (by decide) (by omega) (by omega) ?_
  refine lx_iload5 hC dL_law_1064 ?_
  refine lx_icmp_eq hC 1071 dL_law_1066 rfl (by omega) (by omega) (fun c => ?_) (fun c => absurd rfl c)
  refine lx_iload5 hC dL_law_1071 ?_
  have fin : ∀ (k2 z2 : Nat) (y5 y6 y7 : Option Value), k2 ≤ k + 14 → z2 ≤ z + 300 → lx_W x sb 1088 k2 z2 h2 [none, some (.ref 0), some (.ref 43), some (.ref 50), some (vI ((5 * n : Nat) : Int)), y5, y6, y7] [] := by
    intro k2 z2 y5 y6 y7 a1 a2
    refine lx_goto hC 1203 dL_law_1088 rfl ?_
    exact next _ _ _ _ _ _ ⟨_, _, _, _, _, v2, e2, sk.1, by omega, o46⟩ a1 a2
  refine lx_if_ne hC 1088 dL_law_1073 rfl (by omega) (fun _ => fin _ _ _ _ _ (by omega) (by omega)) (fun c0 => ?_)
  refine lx_aload3 hC dL_law_1076 ?_
  refine lx_iconst hC dL_law_1077 ?_
  refine lx_lald hC dL_law_1078 o46 (by omega) (by omega) ?_
  rw [show ((0 : Int)).toNat = 0 from rfl, ov c0, eb c0]
  have r := rv c0
  refine lx_iload6 hC dL_law_1079 ?_
  refine lx_i2l hC dL_law_1081 (by omega) ?_
  refine lx_lif_eq hC 1088 dL_law_1082 dL_law_1083 rfl (by omega) (by omega) (fun _ => fin _ _ _ _ _ (by omega) (by omega)) (fun c => absurd rfl c)
theorem lc_bits {x : am_X} {sb L : Nat} {xs : Nat → Int32} (hC : am_C x cL_law RL 20 600384 7289322) (hX : lx_S x sb L xs) (hst : (am_l x).stackTraces = false) {h : am_H} (I : lx_I h) {n k z : Nat} (hn : 5 * n + 5 ≤ L) (hk : k + 14 ≤ 600384) (hz : z + 300 ≤ 7289322) (y5 y6 y7 : Option Value)
    (next : ∀ (h1 : am_H) (k1 z1 : Nat) (y5 y6 y7 : Option Value), lx_I h1 → k1 ≤ k + 14 → z1 ≤ z + 300 → lx_W x sb 1203 k1 z1 h1 [none, some (.ref 0), some (.ref 43), some (.ref 50), some (vI ((5 * n : Nat) : Int)), y5, y6, y7] []) :
    lx_W x sb 1091 k z h [none, some (.ref 0), some (.ref 43), some (.ref 50), some (vI ((5 * n : Nat) : Int)), y5, y6, y7] [] := by
  obtain ⟨s, th, wd, R, f, v, e, ok, h47, ho⟩ := I
  refine lx_aload1 hC dL_law_1091 ?_
  refine lx_int hC hX 1 dL_law_1092 dL_law_1093 dL_law_1095 dL_law_1096 dL_law_1097 (by omega) ?_
  refine lx_aload3 hC dL_law_1098 ?_
  refine lx_SH hC dL_law_1099 hL_bits (w_bits _ _ hst v h47 ok (scrI_r _ _) ho) rfl rfl (Nat.le_of_ble_eq_true rfl) (by decide) (by omega) (by omega) (fun kq h1 q => ?_)
  obtain ⟨⟨ek, v1, g1, f1, o1, ov⟩, rv⟩ := q
  have b1 := g1.1
  have e1 := e.gx g1 (by omega) K46_q
  have k1 := e1.1
  refine lx_istore5 hC dL_law_1102 rfl ?_
  refine lx_aload2 hC dL_law_1104 ?_
  refine lx_int hC hX 1 dL_law_1105 dL_law_1106 dL_law_1108 dL_law_1109 dL_law_1110 (by omega) ?_
  refine lx_V1_qI hC 5 dL_law_1111 kL_122 (m_Mbits _ _ e1 ok (scrI_r _ _)) k1 rfl (Nat.le_of_ble_eq_true rfl) (by decide) (by omega) (by omega) (fun b h2 q0 => ?_)
  have q := cv_bits q0
  have sk : aOK (sp_bits s (scrI xs (5 * n + 1))).2.1 ∧ 0 ≤ (sp_bits s (scrI xs (5 * n + 1))).1 ∧ (sp_bits s (scrI xs (5 * n + 1))).1 ≤ 3 := sk_bits ok
  obtain ⟨Q, hQ⟩ : ∃ Q, Q = sp_bits s (scrI xs (5 * n + 1)) := ⟨_, rfl⟩
  rw [← hQ] at q sk ek v1 ov rv
  obtain ⟨eb, ⟨wd2, R2, e2⟩, o2⟩ := q
  have b2 := o2.1
  have v2 := v1.on o2.gx (by omega) K45_q
  have o46 := (o2.2 50 (by decide)).trans o1
  subst ek
  refine lx_istore6 hC dL_law_1114 rfl ?_
  refine lx_aload2 hC dL_law_1116 ?_
  refine lx_V0_pI hC 5 dL_law_1117 kL_72 (m_Mthrown _ _ e2) e2.1 rfl (Nat.le_of_ble_eq_true rfl) (by decide) (by omega) (by omega) ?_
  refine lx_iload5 hC dL_law_1120 ?_
  refine lx_icmp_eq hC 1127 dL_law_1122 rfl (by omega) (by omega) (fun c => ?_) (fun c => absurd rfl c)
  refine lx_iload5 hC dL_law_1127 ?_
  have fin : ∀ (k2 z2 : Nat) (y5 y6 y7 : Option Value), k2 ≤ k + 14 → z2 ≤ z + 300 → lx_W x sb 1144 k2 z2 h2 [none, some (.ref 0), some (.ref 43), some (.ref 50), some (vI ((5 * n : Nat) : Int)), y5, y6, y7] [] := by
    intro k2 z2 y5 y6 y7 a1 a2
    refine lx_goto hC 1203 dL_law_1144 rfl ?_
    exact next _ _ _ _ _ _ ⟨_, _, _, _, _, v2, e2, sk.1, by omega, o46⟩ a1 a2
  refine lx_if_ne hC 1144 dL_law_1129 rfl (by omega) (fun _ => fin _ _ _ _ _ (by omega) (by omega)) (fun c0 => ?_)
  refine lx_aload3 hC dL_law_1132 ?_
  refine lx_iconst hC dL_law_1133 ?_
  refine lx_lald hC dL_law_1134 o46 (by omega) (by omega) ?_
  rw [show ((0 : Int)).toNat = 0 from rfl, ov c0, eb c0]
  have r := rv c0
  refine lx_iload6 hC dL_law_1135 ?_
  refine lx_i2l hC dL_law_1137 (by omega) ?_
  refine lx_lif_eq hC 1144 dL_law_1138 dL_law_1139 rfl (by omega) (by omega) (fun _ => fin _ _ _ _ _ (by omega) (by omega)) (fun c => absurd rfl c)
theorem lc_sign {x : am_X} {sb L : Nat} {xs : Nat → Int32} (hC : am_C x cL_law RL 20 600384 7289322) (hX : lx_S x sb L xs) (hst : (am_l x).stackTraces = false) {h : am_H} (I : lx_I h) {n k z : Nat} (hn : 5 * n + 5 ≤ L) (hk : k + 14 ≤ 600384) (hz : z + 300 ≤ 7289322) (y5 y6 y7 : Option Value)
    (next : ∀ (h1 : am_H) (k1 z1 : Nat) (y5 y6 y7 : Option Value), lx_I h1 → k1 ≤ k + 14 → z1 ≤ z + 300 → lx_W x sb 1203 k1 z1 h1 [none, some (.ref 0), some (.ref 43), some (.ref 50), some (vI ((5 * n : Nat) : Int)), y5, y6, y7] []) :
    lx_W x sb 1147 k z h [none, some (.ref 0), some (.ref 43), some (.ref 50), some (vI ((5 * n : Nat) : Int)), y5, y6, y7] [] := by
  obtain ⟨s, th, wd, R, f, v, e, ok, h47, ho⟩ := I
  refine lx_aload1 hC dL_law_1147 ?_
  refine lx_int hC hX 1 dL_law_1148 dL_law_1149 dL_law_1151 dL_law_1152 dL_law_1153 (by omega) ?_
  refine lx_aload3 hC dL_law_1154 ?_
  refine lx_SH hC dL_law_1155 hL_sign (w_sign _ _ hst v h47 ok (scrI_r _ _) ho) rfl rfl (Nat.le_of_ble_eq_true rfl) (by decide) (by omega) (by omega) (fun kq h1 q => ?_)
  obtain ⟨⟨ek, v1, g1, f1, o1, ov⟩, rv⟩ := q
  have b1 := g1.1
  have e1 := e.gx g1 (by omega) K46_q
  have k1 := e1.1
  refine lx_istore5 hC dL_law_1158 rfl ?_
  refine lx_aload2 hC dL_law_1160 ?_
  refine lx_int hC hX 1 dL_law_1161 dL_law_1162 dL_law_1164 dL_law_1165 dL_law_1166 (by omega) ?_
  refine lx_V1_qI hC 5 dL_law_1167 kL_125 (m_Msign _ _ e1 (scrI_r _ _)) k1 rfl (Nat.le_of_ble_eq_true rfl) (by decide) (by omega) (by omega) (fun b h2 q0 => ?_)
  have q := cv_sign q0
  have sk : aOK (sp_sign s (scrI xs (5 * n + 1))).2.1 ∧ 0 ≤ (sp_sign s (scrI xs (5 * n + 1))).1 ∧ (sp_sign s (scrI xs (5 * n + 1))).1 ≤ 3 := sk_sign ok
  obtain ⟨Q, hQ⟩ : ∃ Q, Q = sp_sign s (scrI xs (5 * n + 1)) := ⟨_, rfl⟩
  rw [← hQ] at q sk ek v1 ov rv
  obtain ⟨eb, ⟨wd2, R2, e2⟩, o2⟩ := q
  have b2 := o2.1
  have v2 := v1.on o2.gx (by omega) K45_q
  have o46 := (o2.2 50 (by decide)).trans o1
  subst ek
  refine lx_istore6 hC dL_law_1170 rfl ?_
  refine lx_aload2 hC dL_law_1172 ?_
  refine lx_V0_pI hC 5 dL_law_1173 kL_72 (m_Mthrown _ _ e2) e2.1 rfl (Nat.le_of_ble_eq_true rfl) (by decide) (by omega) (by omega) ?_
  refine lx_iload5 hC dL_law_1176 ?_
  refine lx_icmp_eq hC 1183 dL_law_1178 rfl (by omega) (by omega) (fun c => ?_) (fun c => absurd rfl c)
  refine lx_iload5 hC dL_law_1183 ?_
  have fin : ∀ (k2 z2 : Nat) (y5 y6 y7 : Option Value), k2 ≤ k + 14 → z2 ≤ z + 300 → lx_W x sb 1200 k2 z2 h2 [none, some (.ref 0), some (.ref 43), some (.ref 50), some (vI ((5 * n : Nat) : Int)), y5, y6, y7] [] := by
    intro k2 z2 y5 y6 y7 a1 a2
    refine lx_goto hC 1203 dL_law_1200 rfl ?_
    exact next _ _ _ _ _ _ ⟨_, _, _, _, _, v2, e2, sk.1, by omega, o46⟩ a1 a2
  refine lx_if_ne hC 1200 dL_law_1185 rfl (by omega) (fun _ => fin _ _ _ _ _ (by omega) (by omega)) (fun c0 => ?_)
  refine lx_aload3 hC dL_law_1188 ?_
  refine lx_iconst hC dL_law_1189 ?_
  refine lx_lald hC dL_law_1190 o46 (by omega) (by omega) ?_
  rw [show ((0 : Int)).toNat = 0 from rfl, ov c0, eb c0]
  have r := rv c0
  refine lx_iload6 hC dL_law_1191 ?_
  refine lx_i2l hC dL_law_1193 (by omega) ?_
  refine lx_lif_eq hC 1200 dL_law_1194 dL_law_1195 rfl (by omega) (by omega) (fun _ => fin _ _ _ _ _ (by omega) (by omega)) (fun c => absurd rfl c)

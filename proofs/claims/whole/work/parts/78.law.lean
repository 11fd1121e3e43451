-- the loop of the law
section Law
variable {L i : Nat} {xs : Nat → Int32} {h : Hp} {Q : Option Value → Hp → Prop}
abbrev lc (i : Nat) : List Value := [.ref 0, .ref 1, .ref 59, .int (nI i)]
theorem ldA {pc k : Nat} {kk : Int} {S : List Value} (hL3 : L ≤ 3072) (i0 : ins ML_law pc = some (.aload_n 0, 1)) (i1 : ins ML_law (pc + 1) = some (.iload_n 3, 1)) (i2 : ins ML_law (pc + 2) = some (.iconst kk, 1)) (i3 : ins ML_law (pc + 3) = some (.iadd, 1)) (i4 : ins ML_law (pc + 4) = some (.iaload, 1)) (hk : Int32.ofInt kk = nI k) (sc : SC L xs h) (hi : i + k < L) (K : At 40 ML_law (pc + 5) (lc i) (.int (xs (i + k)) :: S) h Q) : At 40 ML_law pc (lc i) S h Q := by
  refine At_aload_n (pc' := pc + 1) i0 rfl rfl ?_
  refine At_iload_n (pc' := pc + 2) i1 rfl rfl ?_
  refine At_iconst (v := nI k) (pc' := pc + 3) i2 rfl hk ?_
  refine At_iadd (pc' := pc + 4) i3 rfl ?_
  rw [nI_add]
  refine At_sald (pc' := pc + 5) i4 rfl sc.1 ((inB_iff (by omega)).mpr hi) ?_
  rw [nI_clamp (by omega), sc.2 _ hi]
  exact K
theorem SC.keep {h' : Hp} (s : SC L xs h) (h0 : 0 < nxt h) (k : Keep h h') : SC L xs h' := ⟨by rw [k.2.1 0 h0]; exact s.1, fun j hj => by rw [k.2.2 0 j h0 (by rw [s.1])]; exact s.2 j hj⟩
theorem SZ.pos (s : SZ L h) (hL : Lay h.2.2) : 59 < nxt h := by
  have e := kd_59 hL
  unfold kd at e
  rcases Nat.lt_or_ge 59 (nxt h) with q | q
  · exact q
  · rw [List.getD_eq_getElem?_getD, List.getElem?_eq_none (by exact q)] at e
    exact absurd e (by decide)
theorem Op.go {c m : Mth} {as : List Value} (I : Inv L xs h) (o : Op c m as h (Inv L xs)) (K : ∀ (h1 : Hp) (r : Int32), SC L xs h1 → (shp h1 59).1 = 19 → Call 39 m (.ref 59 :: as) h1 (fun v' h2 => v' = some (.int r) ∧ Inv L xs h2) → Q (some (.int r)) h1) : Call 39 c (.ref 1 :: as) h Q := by
  refine At.mono (At.keep o) (fun v h1 k => ?_)
  obtain ⟨⟨r, ev, k2⟩, kp⟩ := k
  subst ev
  have hL := I.1.1
  have p := SZ.pos I.1.2.2.2.2.2.1 hL
  exact K h1 r (I.1.2.2.2.2.2.2.keep (by omega) kp) (by rw [kp.2.1 59 p]; exact kdK rfl (kd_59 hL)) k2
theorem op_fault' (I : Inv L xs h) (x : Int32) : Op MX10_fault MX11_fault [.int x] h (Inv L xs) := op_fault I.1.1 I.1.2.2.1.1 I.1.2.2.1.2 x I
theorem op_at' (I : Inv L xs h) (x y : Int32) : Op MX10_at MX11_at [.int x, .int y] h (Inv L xs) := by
  obtain ⟨R, n, sl, c, q, nm, sg, w, v, rc, rm, hs⟩ := id I
  exact op_at R.1 v rc rm x y I
theorem op_over' (I : Inv L xs h) (x y : Int32) : Op MX10_over MX11_over [.int x, .int y] h (Inv L xs) := by
  obtain ⟨R, n, sl, c, q, nm, sg, w, v, rc, rm, hs⟩ := id I
  exact op_over R.1 v rc rm x y I
theorem op_outside' (I : Inv L xs h) (x y : Int32) : Op MX10_outside MX11_outside [.int x, .int y] h (Inv L xs) := by
  obtain ⟨R, n, sl, c, q, nm, sg, w, v, rc, rm, hs⟩ := id I
  exact op_outside R.1 v rc rm x y I
theorem op_of' (I : Inv L xs h) (x y : Int32) : Op MX10_of MX11_of [.int x, .int y] h (Inv L xs) := by
  obtain ⟨R, n, sl, c, q, nm, sg, w, v, rc, rm, hs⟩ := id I
  exact op_of R.1 v rc rm x y I
theorem op_look' (I : Inv L xs h) (x : Int32) : Op MX10_look MX11_look [.int x] h (Inv L xs) := by
  obtain ⟨R, n, sl, c, q, nm, sg, w, v, rc, rm, hs⟩ := id I
  obtain ⟨k, nx, us, x1, x2, x3⟩ := id hs
  exact op_look R.1 v rc rm (x1.2.2.1.trans x2.1.symm) x I
theorem op_where' (I : Inv L xs h) (x1 x2 x3 : Int32) {mi : Nat} (hm : mi < 2) : Op MX10_where MX11_where [.int x1, .int x2, .int x3, .int (nI mi)] h (Inv L xs) := by
  obtain ⟨R, n, sl, c, q, nm, sg, w, v, rc, rm, hs⟩ := id I
  exact op_where R.1 v rc rm x1 x2 x3 hm (fun h' s => I.scr s)
theorem op_back' (I : Inv L xs h) (x1 x2 : Int32) : Op MX10_back MX11_back [.int x1, .int x2] h (Inv L xs) := by
  obtain ⟨R, n, sl, c, q, nm, sg, w, v, rc, rm, hs⟩ := id I
  exact op_back R.1 v rc rm x1 x2 (fun h' s => I.scr s)

theorem law_state (hL3 : L ≤ 3072) (I : Inv L xs h) (hi : i + 6 ≤ L) (K : ∀ h2 : Hp, Inv L xs h2 → At 40 ML_law 1053 (lc i) [] h2 Q) : At 40 ML_law 164 (lc i) [] h Q := by
  have hL := I.1.1
  have sc := I.1.2.2.2.2.2.2
  refine At_aload_n (pc' := 165) iL_law_164 rfl rfl ?_
  refine ldA (k := 1) hL3 iL_law_165 iL_law_166 iL_law_167 iL_law_168 iL_law_169 (by decide) sc (by omega) ?_
  refine At_virt (pc' := 173) iL_law_170 rfl m_12_13 rfl rfl (kdK rfl (kd_1 hL)) (Nat.le_of_ble_eq_true rfl) (Nat.le_of_ble_eq_true rfl) ?_
  refine Op.go I (op_state I (xs (i + 1))) (fun h1 r sc1 k59 k2 => ?_)
  show At 40 ML_law 173 (lc i) [.int r] h1 Q
  refine At_aload_n (pc' := 174) iL_law_173 rfl rfl ?_
  refine ldA (k := 1) hL3 iL_law_174 iL_law_175 iL_law_176 iL_law_177 iL_law_178 (by decide) sc1 (by omega) ?_
  refine At_virt (pc' := 182) iL_law_179 rfl m_12_17 rfl rfl k59 (Nat.le_of_ble_eq_true rfl) (Nat.le_of_ble_eq_true rfl) ?_
  refine At.mono k2 (fun v h2 k3 => ?_)
  rw [k3.1]
  show At 40 ML_law 182 (lc i) [.int r, .int r] h2 Q
  exact At_icmp_eq (t := 1053) (pc' := 185) iL_law_182 (by decide) rfl (fun _ => K h2 k3.2) (fun z => absurd rfl z)
theorem law_stool (hL3 : L ≤ 3072) (I : Inv L xs h) (hi : i + 6 ≤ L) (K : ∀ h2 : Hp, Inv L xs h2 → At 40 ML_law 1053 (lc i) [] h2 Q) : At 40 ML_law 187 (lc i) [] h Q := by
  have hL := I.1.1
  have sc := I.1.2.2.2.2.2.2
  refine At_aload_n (pc' := 188) iL_law_187 rfl rfl ?_
  refine ldA (k := 1) hL3 iL_law_188 iL_law_189 iL_law_190 iL_law_191 iL_law_192 (by decide) sc (by omega) ?_
  refine At_virt (pc' := 196) iL_law_193 rfl m_12_18 rfl rfl (kdK rfl (kd_1 hL)) (Nat.le_of_ble_eq_true rfl) (Nat.le_of_ble_eq_true rfl) ?_
  refine Op.go I (op_stool I (xs (i + 1))) (fun h1 r sc1 k59 k2 => ?_)
  show At 40 ML_law 196 (lc i) [.int r] h1 Q
  refine At_aload_n (pc' := 197) iL_law_196 rfl rfl ?_
  refine ldA (k := 1) hL3 iL_law_197 iL_law_198 iL_law_199 iL_law_200 iL_law_201 (by decide) sc1 (by omega) ?_
  refine At_virt (pc' := 205) iL_law_202 rfl m_12_22 rfl rfl k59 (Nat.le_of_ble_eq_true rfl) (Nat.le_of_ble_eq_true rfl) ?_
  refine At.mono k2 (fun v h2 k3 => ?_)
  rw [k3.1]
  show At 40 ML_law 205 (lc i) [.int r, .int r] h2 Q
  exact At_icmp_eq (t := 1053) (pc' := 208) iL_law_205 (by decide) rfl (fun _ => K h2 k3.2) (fun z => absurd rfl z)
theorem law_colour (hL3 : L ≤ 3072) (I : Inv L xs h) (hi : i + 6 ≤ L) (K : ∀ h2 : Hp, Inv L xs h2 → At 40 ML_law 1053 (lc i) [] h2 Q) : At 40 ML_law 210 (lc i) [] h Q := by
  have hL := I.1.1
  have sc := I.1.2.2.2.2.2.2
  refine At_aload_n (pc' := 211) iL_law_210 rfl rfl ?_
  refine ldA (k := 1) hL3 iL_law_211 iL_law_212 iL_law_213 iL_law_214 iL_law_215 (by decide) sc (by omega) ?_
  refine ldA (k := 2) hL3 iL_law_216 iL_law_217 iL_law_218 iL_law_219 iL_law_220 (by decide) sc (by omega) ?_
  refine At_virt (pc' := 224) iL_law_221 rfl m_12_23 rfl rfl (kdK rfl (kd_1 hL)) (Nat.le_of_ble_eq_true rfl) (Nat.le_of_ble_eq_true rfl) ?_
  refine Op.go I (op_colour I (xs (i + 1)) (xs (i + 2))) (fun h1 r sc1 k59 k2 => ?_)
  show At 40 ML_law 224 (lc i) [.int r] h1 Q
  refine At_aload_n (pc' := 225) iL_law_224 rfl rfl ?_
  refine ldA (k := 1) hL3 iL_law_225 iL_law_226 iL_law_227 iL_law_228 iL_law_229 (by decide) sc1 (by omega) ?_
  refine ldA (k := 2) hL3 iL_law_230 iL_law_231 iL_law_232 iL_law_233 iL_law_234 (by decide) sc1 (by omega) ?_
  refine At_virt (pc' := 238) iL_law_235 rfl m_12_27 rfl rfl k59 (Nat.le_of_ble_eq_true rfl) (Nat.le_of_ble_eq_true rfl) ?_
  refine At.mono k2 (fun v h2 k3 => ?_)
  rw [k3.1]
  show At 40 ML_law 238 (lc i) [.int r, .int r] h2 Q
  exact At_icmp_eq (t := 1053) (pc' := 241) iL_law_238 (by decide) rfl (fun _ => K h2 k3.2) (fun z => absurd rfl z)
theorem law_slip (hL3 : L ≤ 3072) (I : Inv L xs h) (hi : i + 6 ≤ L) (K : ∀ h2 : Hp, Inv L xs h2 → At 40 ML_law 1053 (lc i) [] h2 Q) : At 40 ML_law 243 (lc i) [] h Q := by
  have hL := I.1.1
  have sc := I.1.2.2.2.2.2.2
  refine At_aload_n (pc' := 244) iL_law_243 rfl rfl ?_
  refine ldA (k := 1) hL3 iL_law_244 iL_law_245 iL_law_246 iL_law_247 iL_law_248 (by decide) sc (by omega) ?_
  refine At_virt (pc' := 252) iL_law_249 rfl m_12_28 rfl rfl (kdK rfl (kd_1 hL)) (Nat.le_of_ble_eq_true rfl) (Nat.le_of_ble_eq_true rfl) ?_
  refine Op.go I (op_slip I (xs (i + 1))) (fun h1 r sc1 k59 k2 => ?_)
  show At 40 ML_law 252 (lc i) [.int r] h1 Q
  refine At_aload_n (pc' := 253) iL_law_252 rfl rfl ?_
  refine ldA (k := 1) hL3 iL_law_253 iL_law_254 iL_law_255 iL_law_256 iL_law_257 (by decide) sc1 (by omega) ?_
  refine At_virt (pc' := 261) iL_law_258 rfl m_12_31 rfl rfl k59 (Nat.le_of_ble_eq_true rfl) (Nat.le_of_ble_eq_true rfl) ?_
  refine At.mono k2 (fun v h2 k3 => ?_)
  rw [k3.1]
  show At 40 ML_law 261 (lc i) [.int r, .int r] h2 Q
  exact At_icmp_eq (t := 1053) (pc' := 264) iL_law_261 (by decide) rfl (fun _ => K h2 k3.2) (fun z => absurd rfl z)
theorem law_feed (hL3 : L ≤ 3072) (I : Inv L xs h) (hi : i + 6 ≤ L) (K : ∀ h2 : Hp, Inv L xs h2 → At 40 ML_law 1053 (lc i) [] h2 Q) : At 40 ML_law 266 (lc i) [] h Q := by
  have hL := I.1.1
  have sc := I.1.2.2.2.2.2.2
  refine At_aload_n (pc' := 267) iL_law_266 rfl rfl ?_
  refine ldA (k := 1) hL3 iL_law_267 iL_law_268 iL_law_269 iL_law_270 iL_law_271 (by decide) sc (by omega) ?_
  refine ldA (k := 2) hL3 iL_law_272 iL_law_273 iL_law_274 iL_law_275 iL_law_276 (by decide) sc (by omega) ?_
  refine ldA (k := 3) hL3 iL_law_277 iL_law_278 iL_law_279 iL_law_280 iL_law_281 (by decide) sc (by omega) ?_
  refine ldA (k := 4) hL3 iL_law_282 iL_law_283 iL_law_284 iL_law_285 iL_law_286 (by decide) sc (by omega) ?_
  refine ldA (k := 5) hL3 iL_law_287 iL_law_288 iL_law_289 iL_law_290 iL_law_291 (by decide) sc (by omega) ?_
  refine At_virt (pc' := 295) iL_law_292 rfl m_12_32 rfl rfl (kdK rfl (kd_1 hL)) (Nat.le_of_ble_eq_true rfl) (Nat.le_of_ble_eq_true rfl) ?_
  refine Op.go I (op_feed I (xs (i + 1)) (xs (i + 2)) (xs (i + 3)) (xs (i + 4)) (xs (i + 5))) (fun h1 r sc1 k59 k2 => ?_)
  show At 40 ML_law 295 (lc i) [.int r] h1 Q
  refine At_aload_n (pc' := 296) iL_law_295 rfl rfl ?_
  refine ldA (k := 1) hL3 iL_law_296 iL_law_297 iL_law_298 iL_law_299 iL_law_300 (by decide) sc1 (by omega) ?_
  refine ldA (k := 2) hL3 iL_law_301 iL_law_302 iL_law_303 iL_law_304 iL_law_305 (by decide) sc1 (by omega) ?_
  refine ldA (k := 3) hL3 iL_law_306 iL_law_307 iL_law_308 iL_law_309 iL_law_310 (by decide) sc1 (by omega) ?_
  refine ldA (k := 4) hL3 iL_law_311 iL_law_312 iL_law_313 iL_law_314 iL_law_315 (by decide) sc1 (by omega) ?_
  refine ldA (k := 5) hL3 iL_law_316 iL_law_317 iL_law_318 iL_law_319 iL_law_320 (by decide) sc1 (by omega) ?_
  refine At_virt (pc' := 324) iL_law_321 rfl m_12_36 rfl rfl k59 (Nat.le_of_ble_eq_true rfl) (Nat.le_of_ble_eq_true rfl) ?_
  refine At.mono k2 (fun v h2 k3 => ?_)
  rw [k3.1]
  show At 40 ML_law 324 (lc i) [.int r, .int r] h2 Q
  exact At_icmp_eq (t := 1053) (pc' := 327) iL_law_324 (by decide) rfl (fun _ => K h2 k3.2) (fun z => absurd rfl z)
theorem law_end (hL3 : L ≤ 3072) (I : Inv L xs h) (hi : i + 6 ≤ L) (K : ∀ h2 : Hp, Inv L xs h2 → At 40 ML_law 1053 (lc i) [] h2 Q) : At 40 ML_law 329 (lc i) [] h Q := by
  have hL := I.1.1
  have sc := I.1.2.2.2.2.2.2
  refine At_aload_n (pc' := 330) iL_law_329 rfl rfl ?_
  refine ldA (k := 1) hL3 iL_law_330 iL_law_331 iL_law_332 iL_law_333 iL_law_334 (by decide) sc (by omega) ?_
  refine At_virt (pc' := 338) iL_law_335 rfl m_12_37 rfl rfl (kdK rfl (kd_1 hL)) (Nat.le_of_ble_eq_true rfl) (Nat.le_of_ble_eq_true rfl) ?_
  refine Op.go I (op_end I (xs (i + 1))) (fun h1 r sc1 k59 k2 => ?_)
  show At 40 ML_law 338 (lc i) [.int r] h1 Q
  refine At_aload_n (pc' := 339) iL_law_338 rfl rfl ?_
  refine ldA (k := 1) hL3 iL_law_339 iL_law_340 iL_law_341 iL_law_342 iL_law_343 (by decide) sc1 (by omega) ?_
  refine At_virt (pc' := 347) iL_law_344 rfl m_12_40 rfl rfl k59 (Nat.le_of_ble_eq_true rfl) (Nat.le_of_ble_eq_true rfl) ?_
  refine At.mono k2 (fun v h2 k3 => ?_)
  rw [k3.1]
  show At 40 ML_law 347 (lc i) [.int r, .int r] h2 Q
  exact At_icmp_eq (t := 1053) (pc' := 350) iL_law_347 (by decide) rfl (fun _ => K h2 k3.2) (fun z => absurd rfl z)
theorem law_text (hL3 : L ≤ 3072) (I : Inv L xs h) (hi : i + 6 ≤ L) (K : ∀ h2 : Hp, Inv L xs h2 → At 40 ML_law 1053 (lc i) [] h2 Q) : At 40 ML_law 352 (lc i) [] h Q := by
  have hL := I.1.1
  have sc := I.1.2.2.2.2.2.2
  refine At_aload_n (pc' := 353) iL_law_352 rfl rfl ?_
  refine ldA (k := 1) hL3 iL_law_353 iL_law_354 iL_law_355 iL_law_356 iL_law_357 (by decide) sc (by omega) ?_
  refine At_virt (pc' := 361) iL_law_358 rfl m_12_41 rfl rfl (kdK rfl (kd_1 hL)) (Nat.le_of_ble_eq_true rfl) (Nat.le_of_ble_eq_true rfl) ?_
  refine Op.go I (op_text I (xs (i + 1))) (fun h1 r sc1 k59 k2 => ?_)
  show At 40 ML_law 361 (lc i) [.int r] h1 Q
  refine At_aload_n (pc' := 362) iL_law_361 rfl rfl ?_
  refine ldA (k := 1) hL3 iL_law_362 iL_law_363 iL_law_364 iL_law_365 iL_law_366 (by decide) sc1 (by omega) ?_
  refine At_virt (pc' := 370) iL_law_367 rfl m_12_44 rfl rfl k59 (Nat.le_of_ble_eq_true rfl) (Nat.le_of_ble_eq_true rfl) ?_
  refine At.mono k2 (fun v h2 k3 => ?_)
  rw [k3.1]
  show At 40 ML_law 370 (lc i) [.int r, .int r] h2 Q
  exact At_icmp_eq (t := 1053) (pc' := 373) iL_law_370 (by decide) rfl (fun _ => K h2 k3.2) (fun z => absurd rfl z)
theorem law_fault (hL3 : L ≤ 3072) (I : Inv L xs h) (hi : i + 6 ≤ L) (K : ∀ h2 : Hp, Inv L xs h2 → At 40 ML_law 1053 (lc i) [] h2 Q) : At 40 ML_law 375 (lc i) [] h Q := by
  have hL := I.1.1
  have sc := I.1.2.2.2.2.2.2
  refine At_aload_n (pc' := 376) iL_law_375 rfl rfl ?_
  refine ldA (k := 1) hL3 iL_law_376 iL_law_377 iL_law_378 iL_law_379 iL_law_380 (by decide) sc (by omega) ?_
  refine At_virt (pc' := 384) iL_law_381 rfl m_12_45 rfl rfl (kdK rfl (kd_1 hL)) (Nat.le_of_ble_eq_true rfl) (Nat.le_of_ble_eq_true rfl) ?_
  refine Op.go I (op_fault' I (xs (i + 1))) (fun h1 r sc1 k59 k2 => ?_)
  show At 40 ML_law 384 (lc i) [.int r] h1 Q
  refine At_aload_n (pc' := 385) iL_law_384 rfl rfl ?_
  refine ldA (k := 1) hL3 iL_law_385 iL_law_386 iL_law_387 iL_law_388 iL_law_389 (by decide) sc1 (by omega) ?_
  refine At_virt (pc' := 393) iL_law_390 rfl m_12_48 rfl rfl k59 (Nat.le_of_ble_eq_true rfl) (Nat.le_of_ble_eq_true rfl) ?_
  refine At.mono k2 (fun v h2 k3 => ?_)
  rw [k3.1]
  show At 40 ML_law 393 (lc i) [.int r, .int r] h2 Q
  exact At_icmp_eq (t := 1053) (pc' := 396) iL_law_393 (by decide) rfl (fun _ => K h2 k3.2) (fun z => absurd rfl z)
theorem law_sing (hL3 : L ≤ 3072) (I : Inv L xs h) (hi : i + 6 ≤ L) (K : ∀ h2 : Hp, Inv L xs h2 → At 40 ML_law 1053 (lc i) [] h2 Q) : At 40 ML_law 398 (lc i) [] h Q := by
  have hL := I.1.1
  have sc := I.1.2.2.2.2.2.2
  refine At_aload_n (pc' := 399) iL_law_398 rfl rfl ?_
  refine ldA (k := 1) hL3 iL_law_399 iL_law_400 iL_law_401 iL_law_402 iL_law_403 (by decide) sc (by omega) ?_
  refine ldA (k := 2) hL3 iL_law_404 iL_law_405 iL_law_406 iL_law_407 iL_law_408 (by decide) sc (by omega) ?_
  refine At_virt (pc' := 412) iL_law_409 rfl m_12_49 rfl rfl (kdK rfl (kd_1 hL)) (Nat.le_of_ble_eq_true rfl) (Nat.le_of_ble_eq_true rfl) ?_
  refine Op.go I (op_sing I (xs (i + 1)) (xs (i + 2))) (fun h1 r sc1 k59 k2 => ?_)
  show At 40 ML_law 412 (lc i) [.int r] h1 Q
  refine At_aload_n (pc' := 413) iL_law_412 rfl rfl ?_
  refine ldA (k := 1) hL3 iL_law_413 iL_law_414 iL_law_415 iL_law_416 iL_law_417 (by decide) sc1 (by omega) ?_
  refine ldA (k := 2) hL3 iL_law_418 iL_law_419 iL_law_420 iL_law_421 iL_law_422 (by decide) sc1 (by omega) ?_
  refine At_virt (pc' := 426) iL_law_423 rfl m_12_53 rfl rfl k59 (Nat.le_of_ble_eq_true rfl) (Nat.le_of_ble_eq_true rfl) ?_
  refine At.mono k2 (fun v h2 k3 => ?_)
  rw [k3.1]
  show At 40 ML_law 426 (lc i) [.int r, .int r] h2 Q
  exact At_icmp_eq (t := 1053) (pc' := 429) iL_law_426 (by decide) rfl (fun _ => K h2 k3.2) (fun z => absurd rfl z)
theorem law_at (hL3 : L ≤ 3072) (I : Inv L xs h) (hi : i + 6 ≤ L) (K : ∀ h2 : Hp, Inv L xs h2 → At 40 ML_law 1053 (lc i) [] h2 Q) : At 40 ML_law 431 (lc i) [] h Q := by
  have hL := I.1.1
  have sc := I.1.2.2.2.2.2.2
  refine At_aload_n (pc' := 432) iL_law_431 rfl rfl ?_
  refine ldA (k := 1) hL3 iL_law_432 iL_law_433 iL_law_434 iL_law_435 iL_law_436 (by decide) sc (by omega) ?_
  refine ldA (k := 2) hL3 iL_law_437 iL_law_438 iL_law_439 iL_law_440 iL_law_441 (by decide) sc (by omega) ?_
  refine At_virt (pc' := 445) iL_law_442 rfl m_12_54 rfl rfl (kdK rfl (kd_1 hL)) (Nat.le_of_ble_eq_true rfl) (Nat.le_of_ble_eq_true rfl) ?_
  refine Op.go I (op_at' I (xs (i + 1)) (xs (i + 2))) (fun h1 r sc1 k59 k2 => ?_)
  show At 40 ML_law 445 (lc i) [.int r] h1 Q
  refine At_aload_n (pc' := 446) iL_law_445 rfl rfl ?_
  refine ldA (k := 1) hL3 iL_law_446 iL_law_447 iL_law_448 iL_law_449 iL_law_450 (by decide) sc1 (by omega) ?_
  refine ldA (k := 2) hL3 iL_law_451 iL_law_452 iL_law_453 iL_law_454 iL_law_455 (by decide) sc1 (by omega) ?_
  refine At_virt (pc' := 459) iL_law_456 rfl m_12_57 rfl rfl k59 (Nat.le_of_ble_eq_true rfl) (Nat.le_of_ble_eq_true rfl) ?_
  refine At.mono k2 (fun v h2 k3 => ?_)
  rw [k3.1]
  show At 40 ML_law 459 (lc i) [.int r, .int r] h2 Q
  exact At_icmp_eq (t := 1053) (pc' := 462) iL_law_459 (by decide) rfl (fun _ => K h2 k3.2) (fun z => absurd rfl z)
theorem law_of (hL3 : L ≤ 3072) (I : Inv L xs h) (hi : i + 6 ≤ L) (K : ∀ h2 : Hp, Inv L xs h2 → At 40 ML_law 1053 (lc i) [] h2 Q) : At 40 ML_law 464 (lc i) [] h Q := by
  have hL := I.1.1
  have sc := I.1.2.2.2.2.2.2
  refine At_aload_n (pc' := 465) iL_law_464 rfl rfl ?_
  refine ldA (k := 1) hL3 iL_law_465 iL_law_466 iL_law_467 iL_law_468 iL_law_469 (by decide) sc (by omega) ?_
  refine ldA (k := 2) hL3 iL_law_470 iL_law_471 iL_law_472 iL_law_473 iL_law_474 (by decide) sc (by omega) ?_
  refine At_virt (pc' := 478) iL_law_475 rfl m_12_58 rfl rfl (kdK rfl (kd_1 hL)) (Nat.le_of_ble_eq_true rfl) (Nat.le_of_ble_eq_true rfl) ?_
  refine Op.go I (op_of' I (xs (i + 1)) (xs (i + 2))) (fun h1 r sc1 k59 k2 => ?_)
  show At 40 ML_law 478 (lc i) [.int r] h1 Q
  refine At_aload_n (pc' := 479) iL_law_478 rfl rfl ?_
  refine ldA (k := 1) hL3 iL_law_479 iL_law_480 iL_law_481 iL_law_482 iL_law_483 (by decide) sc1 (by omega) ?_
  refine ldA (k := 2) hL3 iL_law_484 iL_law_485 iL_law_486 iL_law_487 iL_law_488 (by decide) sc1 (by omega) ?_
  refine At_virt (pc' := 492) iL_law_489 rfl m_12_61 rfl rfl k59 (Nat.le_of_ble_eq_true rfl) (Nat.le_of_ble_eq_true rfl) ?_
  refine At.mono k2 (fun v h2 k3 => ?_)
  rw [k3.1]
  show At 40 ML_law 492 (lc i) [.int r, .int r] h2 Q
  exact At_icmp_eq (t := 1053) (pc' := 495) iL_law_492 (by decide) rfl (fun _ => K h2 k3.2) (fun z => absurd rfl z)
theorem law_over (hL3 : L ≤ 3072) (I : Inv L xs h) (hi : i + 6 ≤ L) (K : ∀ h2 : Hp, Inv L xs h2 → At 40 ML_law 1053 (lc i) [] h2 Q) : At 40 ML_law 497 (lc i) [] h Q := by
  have hL := I.1.1
  have sc := I.1.2.2.2.2.2.2
  refine At_aload_n (pc' := 498) iL_law_497 rfl rfl ?_
  refine ldA (k := 1) hL3 iL_law_498 iL_law_499 iL_law_500 iL_law_501 iL_law_502 (by decide) sc (by omega) ?_
  refine ldA (k := 2) hL3 iL_law_503 iL_law_504 iL_law_505 iL_law_506 iL_law_507 (by decide) sc (by omega) ?_
  refine At_virt (pc' := 511) iL_law_508 rfl m_12_62 rfl rfl (kdK rfl (kd_1 hL)) (Nat.le_of_ble_eq_true rfl) (Nat.le_of_ble_eq_true rfl) ?_
  refine Op.go I (op_over' I (xs (i + 1)) (xs (i + 2))) (fun h1 r sc1 k59 k2 => ?_)
  show At 40 ML_law 511 (lc i) [.int r] h1 Q
  refine At_aload_n (pc' := 512) iL_law_511 rfl rfl ?_
  refine ldA (k := 1) hL3 iL_law_512 iL_law_513 iL_law_514 iL_law_515 iL_law_516 (by decide) sc1 (by omega) ?_
  refine ldA (k := 2) hL3 iL_law_517 iL_law_518 iL_law_519 iL_law_520 iL_law_521 (by decide) sc1 (by omega) ?_
  refine At_virt (pc' := 525) iL_law_522 rfl m_12_65 rfl rfl k59 (Nat.le_of_ble_eq_true rfl) (Nat.le_of_ble_eq_true rfl) ?_
  refine At.mono k2 (fun v h2 k3 => ?_)
  rw [k3.1]
  show At 40 ML_law 525 (lc i) [.int r, .int r] h2 Q
  exact At_icmp_eq (t := 1053) (pc' := 528) iL_law_525 (by decide) rfl (fun _ => K h2 k3.2) (fun z => absurd rfl z)
theorem law_outside (hL3 : L ≤ 3072) (I : Inv L xs h) (hi : i + 6 ≤ L) (K : ∀ h2 : Hp, Inv L xs h2 → At 40 ML_law 1053 (lc i) [] h2 Q) : At 40 ML_law 530 (lc i) [] h Q := by
  have hL := I.1.1
  have sc := I.1.2.2.2.2.2.2
  refine At_aload_n (pc' := 531) iL_law_530 rfl rfl ?_
  refine ldA (k := 1) hL3 iL_law_531 iL_law_532 iL_law_533 iL_law_534 iL_law_535 (by decide) sc (by omega) ?_
  refine ldA (k := 2) hL3 iL_law_536 iL_law_537 iL_law_538 iL_law_539 iL_law_540 (by decide) sc (by omega) ?_
  refine At_virt (pc' := 544) iL_law_541 rfl m_12_66 rfl rfl (kdK rfl (kd_1 hL)) (Nat.le_of_ble_eq_true rfl) (Nat.le_of_ble_eq_true rfl) ?_
  refine Op.go I (op_outside' I (xs (i + 1)) (xs (i + 2))) (fun h1 r sc1 k59 k2 => ?_)
  show At 40 ML_law 544 (lc i) [.int r] h1 Q
  refine At_aload_n (pc' := 545) iL_law_544 rfl rfl ?_
  refine ldA (k := 1) hL3 iL_law_545 iL_law_546 iL_law_547 iL_law_548 iL_law_549 (by decide) sc1 (by omega) ?_
  refine ldA (k := 2) hL3 iL_law_550 iL_law_551 iL_law_552 iL_law_553 iL_law_554 (by decide) sc1 (by omega) ?_
  refine At_virt (pc' := 558) iL_law_555 rfl m_12_69 rfl rfl k59 (Nat.le_of_ble_eq_true rfl) (Nat.le_of_ble_eq_true rfl) ?_
  refine At.mono k2 (fun v h2 k3 => ?_)
  rw [k3.1]
  show At 40 ML_law 558 (lc i) [.int r, .int r] h2 Q
  exact At_icmp_eq (t := 1053) (pc' := 561) iL_law_558 (by decide) rfl (fun _ => K h2 k3.2) (fun z => absurd rfl z)
theorem law_back (hL3 : L ≤ 3072) (I : Inv L xs h) (hi : i + 6 ≤ L) (K : ∀ h2 : Hp, Inv L xs h2 → At 40 ML_law 1053 (lc i) [] h2 Q) : At 40 ML_law 563 (lc i) [] h Q := by
  have hL := I.1.1
  have sc := I.1.2.2.2.2.2.2
  refine At_aload_n (pc' := 564) iL_law_563 rfl rfl ?_
  refine ldA (k := 1) hL3 iL_law_564 iL_law_565 iL_law_566 iL_law_567 iL_law_568 (by decide) sc (by omega) ?_
  refine ldA (k := 2) hL3 iL_law_569 iL_law_570 iL_law_571 iL_law_572 iL_law_573 (by decide) sc (by omega) ?_
  refine At_virt (pc' := 577) iL_law_574 rfl m_12_70 rfl rfl (kdK rfl (kd_1 hL)) (Nat.le_of_ble_eq_true rfl) (Nat.le_of_ble_eq_true rfl) ?_
  refine Op.go I (op_back' I (xs (i + 1)) (xs (i + 2))) (fun h1 r sc1 k59 k2 => ?_)
  show At 40 ML_law 577 (lc i) [.int r] h1 Q
  refine At_aload_n (pc' := 578) iL_law_577 rfl rfl ?_
  refine ldA (k := 1) hL3 iL_law_578 iL_law_579 iL_law_580 iL_law_581 iL_law_582 (by decide) sc1 (by omega) ?_
  refine ldA (k := 2) hL3 iL_law_583 iL_law_584 iL_law_585 iL_law_586 iL_law_587 (by decide) sc1 (by omega) ?_
  refine At_virt (pc' := 591) iL_law_588 rfl m_12_73 rfl rfl k59 (Nat.le_of_ble_eq_true rfl) (Nat.le_of_ble_eq_true rfl) ?_
  refine At.mono k2 (fun v h2 k3 => ?_)
  rw [k3.1]
  show At 40 ML_law 591 (lc i) [.int r, .int r] h2 Q
  exact At_icmp_eq (t := 1053) (pc' := 594) iL_law_591 (by decide) rfl (fun _ => K h2 k3.2) (fun z => absurd rfl z)
theorem law_where0 (hL3 : L ≤ 3072) (I : Inv L xs h) (hi : i + 6 ≤ L) (hb : xs (i + 4) = 0) (K : ∀ h2 : Hp, Inv L xs h2 → At 40 ML_law 1053 (lc i) [] h2 Q) : At 40 ML_law 596 (lc i) [] h Q := by
  have hL := I.1.1
  have sc := I.1.2.2.2.2.2.2
  refine At_aload_n (pc' := 597) iL_law_596 rfl rfl ?_
  refine ldA (k := 1) hL3 iL_law_597 iL_law_598 iL_law_599 iL_law_600 iL_law_601 (by decide) sc (by omega) ?_
  refine ldA (k := 2) hL3 iL_law_602 iL_law_603 iL_law_604 iL_law_605 iL_law_606 (by decide) sc (by omega) ?_
  refine ldA (k := 3) hL3 iL_law_607 iL_law_608 iL_law_609 iL_law_610 iL_law_611 (by decide) sc (by omega) ?_
  refine ldA (k := 4) hL3 iL_law_612 iL_law_613 iL_law_614 iL_law_615 iL_law_616 (by decide) sc (by omega) ?_
  refine At_if_eq (t := 624) (pc' := 620) iL_law_617 (by decide) rfl (fun _ => ?_) (fun z => absurd hb z)
  refine At_iconst (v := nI 0) (pc' := 625) iL_law_624 rfl (by decide) ?_
  refine At_virt (pc' := 628) iL_law_625 rfl m_12_74 rfl rfl (kdK rfl (kd_1 hL)) (Nat.le_of_ble_eq_true rfl) (Nat.le_of_ble_eq_true rfl) ?_
  refine Op.go I (op_where' I (xs (i + 1)) (xs (i + 2)) (xs (i + 3)) (mi := 0) (by decide)) (fun h1 r sc1 k59 k2 => ?_)
  show At 40 ML_law 628 (lc i) [.int r] h1 Q
  refine At_aload_n (pc' := 629) iL_law_628 rfl rfl ?_
  refine ldA (k := 1) hL3 iL_law_629 iL_law_630 iL_law_631 iL_law_632 iL_law_633 (by decide) sc1 (by omega) ?_
  refine ldA (k := 2) hL3 iL_law_634 iL_law_635 iL_law_636 iL_law_637 iL_law_638 (by decide) sc1 (by omega) ?_
  refine ldA (k := 3) hL3 iL_law_639 iL_law_640 iL_law_641 iL_law_642 iL_law_643 (by decide) sc1 (by omega) ?_
  refine ldA (k := 4) hL3 iL_law_644 iL_law_645 iL_law_646 iL_law_647 iL_law_648 (by decide) sc1 (by omega) ?_
  refine At_if_eq (t := 656) (pc' := 652) iL_law_649 (by decide) rfl (fun _ => ?_) (fun z => absurd hb z)
  refine At_iconst (v := nI 0) (pc' := 657) iL_law_656 rfl (by decide) ?_
  refine At_virt (pc' := 660) iL_law_657 rfl m_12_78 rfl rfl k59 (Nat.le_of_ble_eq_true rfl) (Nat.le_of_ble_eq_true rfl) ?_
  refine At.mono k2 (fun v h2 k3 => ?_)
  rw [k3.1]
  show At 40 ML_law 660 (lc i) [.int r, .int r] h2 Q
  exact At_icmp_eq (t := 1053) (pc' := 663) iL_law_660 (by decide) rfl (fun _ => K h2 k3.2) (fun z => absurd rfl z)
theorem law_where1 (hL3 : L ≤ 3072) (I : Inv L xs h) (hi : i + 6 ≤ L) (hb : ¬ xs (i + 4) = 0) (K : ∀ h2 : Hp, Inv L xs h2 → At 40 ML_law 1053 (lc i) [] h2 Q) : At 40 ML_law 596 (lc i) [] h Q := by
  have hL := I.1.1
  have sc := I.1.2.2.2.2.2.2
  refine At_aload_n (pc' := 597) iL_law_596 rfl rfl ?_
  refine ldA (k := 1) hL3 iL_law_597 iL_law_598 iL_law_599 iL_law_600 iL_law_601 (by decide) sc (by omega) ?_
  refine ldA (k := 2) hL3 iL_law_602 iL_law_603 iL_law_604 iL_law_605 iL_law_606 (by decide) sc (by omega) ?_
  refine ldA (k := 3) hL3 iL_law_607 iL_law_608 iL_law_609 iL_law_610 iL_law_611 (by decide) sc (by omega) ?_
  refine ldA (k := 4) hL3 iL_law_612 iL_law_613 iL_law_614 iL_law_615 iL_law_616 (by decide) sc (by omega) ?_
  refine At_if_eq (t := 624) (pc' := 620) iL_law_617 (by decide) rfl (fun z => absurd z hb) (fun _ => ?_)
  refine At_iconst (v := nI 1) (pc' := 621) iL_law_620 rfl (by decide) ?_
  refine At_goto (t := 625) iL_law_621 (by decide) ?_
  refine At_virt (pc' := 628) iL_law_625 rfl m_12_74 rfl rfl (kdK rfl (kd_1 hL)) (Nat.le_of_ble_eq_true rfl) (Nat.le_of_ble_eq_true rfl) ?_
  refine Op.go I (op_where' I (xs (i + 1)) (xs (i + 2)) (xs (i + 3)) (mi := 1) (by decide)) (fun h1 r sc1 k59 k2 => ?_)
  show At 40 ML_law 628 (lc i) [.int r] h1 Q
  refine At_aload_n (pc' := 629) iL_law_628 rfl rfl ?_
  refine ldA (k := 1) hL3 iL_law_629 iL_law_630 iL_law_631 iL_law_632 iL_law_633 (by decide) sc1 (by omega) ?_
  refine ldA (k := 2) hL3 iL_law_634 iL_law_635 iL_law_636 iL_law_637 iL_law_638 (by decide) sc1 (by omega) ?_
  refine ldA (k := 3) hL3 iL_law_639 iL_law_640 iL_law_641 iL_law_642 iL_law_643 (by decide) sc1 (by omega) ?_
  refine ldA (k := 4) hL3 iL_law_644 iL_law_645 iL_law_646 iL_law_647 iL_law_648 (by decide) sc1 (by omega) ?_
  refine At_if_eq (t := 656) (pc' := 652) iL_law_649 (by decide) rfl (fun z => absurd z hb) (fun _ => ?_)
  refine At_iconst (v := nI 1) (pc' := 653) iL_law_652 rfl (by decide) ?_
  refine At_goto (t := 657) iL_law_653 (by decide) ?_
  refine At_virt (pc' := 660) iL_law_657 rfl m_12_78 rfl rfl k59 (Nat.le_of_ble_eq_true rfl) (Nat.le_of_ble_eq_true rfl) ?_
  refine At.mono k2 (fun v h2 k3 => ?_)
  rw [k3.1]
  show At 40 ML_law 660 (lc i) [.int r, .int r] h2 Q
  exact At_icmp_eq (t := 1053) (pc' := 663) iL_law_660 (by decide) rfl (fun _ => K h2 k3.2) (fun z => absurd rfl z)
theorem law_want (hL3 : L ≤ 3072) (I : Inv L xs h) (hi : i + 6 ≤ L) (K : ∀ h2 : Hp, Inv L xs h2 → At 40 ML_law 1053 (lc i) [] h2 Q) : At 40 ML_law 665 (lc i) [] h Q := by
  have hL := I.1.1
  have sc := I.1.2.2.2.2.2.2
  refine At_aload_n (pc' := 666) iL_law_665 rfl rfl ?_
  refine ldA (k := 1) hL3 iL_law_666 iL_law_667 iL_law_668 iL_law_669 iL_law_670 (by decide) sc (by omega) ?_
  refine ldA (k := 2) hL3 iL_law_671 iL_law_672 iL_law_673 iL_law_674 iL_law_675 (by decide) sc (by omega) ?_
  refine At_virt (pc' := 679) iL_law_676 rfl m_12_79 rfl rfl (kdK rfl (kd_1 hL)) (Nat.le_of_ble_eq_true rfl) (Nat.le_of_ble_eq_true rfl) ?_
  refine Op.go I (op_want I (xs (i + 1)) (xs (i + 2))) (fun h1 r sc1 k59 k2 => ?_)
  show At 40 ML_law 679 (lc i) [.int r] h1 Q
  refine At_aload_n (pc' := 680) iL_law_679 rfl rfl ?_
  refine ldA (k := 1) hL3 iL_law_680 iL_law_681 iL_law_682 iL_law_683 iL_law_684 (by decide) sc1 (by omega) ?_
  refine ldA (k := 2) hL3 iL_law_685 iL_law_686 iL_law_687 iL_law_688 iL_law_689 (by decide) sc1 (by omega) ?_
  refine At_virt (pc' := 693) iL_law_690 rfl m_12_82 rfl rfl k59 (Nat.le_of_ble_eq_true rfl) (Nat.le_of_ble_eq_true rfl) ?_
  refine At.mono k2 (fun v h2 k3 => ?_)
  rw [k3.1]
  show At 40 ML_law 693 (lc i) [.int r, .int r] h2 Q
  exact At_icmp_eq (t := 1053) (pc' := 696) iL_law_693 (by decide) rfl (fun _ => K h2 k3.2) (fun z => absurd rfl z)
theorem law_fewest (hL3 : L ≤ 3072) (I : Inv L xs h) (hi : i + 6 ≤ L) (K : ∀ h2 : Hp, Inv L xs h2 → At 40 ML_law 1053 (lc i) [] h2 Q) : At 40 ML_law 698 (lc i) [] h Q := by
  have hL := I.1.1
  have sc := I.1.2.2.2.2.2.2
  refine At_aload_n (pc' := 699) iL_law_698 rfl rfl ?_
  refine ldA (k := 1) hL3 iL_law_699 iL_law_700 iL_law_701 iL_law_702 iL_law_703 (by decide) sc (by omega) ?_
  refine At_virt (pc' := 707) iL_law_704 rfl m_12_83 rfl rfl (kdK rfl (kd_1 hL)) (Nat.le_of_ble_eq_true rfl) (Nat.le_of_ble_eq_true rfl) ?_
  refine Op.go I (op_fewest I (xs (i + 1))) (fun h1 r sc1 k59 k2 => ?_)
  show At 40 ML_law 707 (lc i) [.int r] h1 Q
  refine At_aload_n (pc' := 708) iL_law_707 rfl rfl ?_
  refine ldA (k := 1) hL3 iL_law_708 iL_law_709 iL_law_710 iL_law_711 iL_law_712 (by decide) sc1 (by omega) ?_
  refine At_virt (pc' := 716) iL_law_713 rfl m_12_86 rfl rfl k59 (Nat.le_of_ble_eq_true rfl) (Nat.le_of_ble_eq_true rfl) ?_
  refine At.mono k2 (fun v h2 k3 => ?_)
  rw [k3.1]
  show At 40 ML_law 716 (lc i) [.int r, .int r] h2 Q
  exact At_icmp_eq (t := 1053) (pc' := 719) iL_law_716 (by decide) rfl (fun _ => K h2 k3.2) (fun z => absurd rfl z)
theorem law_cut (hL3 : L ≤ 3072) (I : Inv L xs h) (hi : i + 6 ≤ L) (K : ∀ h2 : Hp, Inv L xs h2 → At 40 ML_law 1053 (lc i) [] h2 Q) : At 40 ML_law 721 (lc i) [] h Q := by
  have hL := I.1.1
  have sc := I.1.2.2.2.2.2.2
  refine At_aload_n (pc' := 722) iL_law_721 rfl rfl ?_
  refine ldA (k := 1) hL3 iL_law_722 iL_law_723 iL_law_724 iL_law_725 iL_law_726 (by decide) sc (by omega) ?_
  refine At_virt (pc' := 730) iL_law_727 rfl m_12_87 rfl rfl (kdK rfl (kd_1 hL)) (Nat.le_of_ble_eq_true rfl) (Nat.le_of_ble_eq_true rfl) ?_
  refine Op.go I (op_cut I (xs (i + 1))) (fun h1 r sc1 k59 k2 => ?_)
  show At 40 ML_law 730 (lc i) [.int r] h1 Q
  refine At_aload_n (pc' := 731) iL_law_730 rfl rfl ?_
  refine ldA (k := 1) hL3 iL_law_731 iL_law_732 iL_law_733 iL_law_734 iL_law_735 (by decide) sc1 (by omega) ?_
  refine At_virt (pc' := 739) iL_law_736 rfl m_12_90 rfl rfl k59 (Nat.le_of_ble_eq_true rfl) (Nat.le_of_ble_eq_true rfl) ?_
  refine At.mono k2 (fun v h2 k3 => ?_)
  rw [k3.1]
  show At 40 ML_law 739 (lc i) [.int r, .int r] h2 Q
  exact At_icmp_eq (t := 1053) (pc' := 742) iL_law_739 (by decide) rfl (fun _ => K h2 k3.2) (fun z => absurd rfl z)
theorem law_dropped (hL3 : L ≤ 3072) (I : Inv L xs h) (hi : i + 6 ≤ L) (K : ∀ h2 : Hp, Inv L xs h2 → At 40 ML_law 1053 (lc i) [] h2 Q) : At 40 ML_law 744 (lc i) [] h Q := by
  have hL := I.1.1
  have sc := I.1.2.2.2.2.2.2
  refine At_aload_n (pc' := 745) iL_law_744 rfl rfl ?_
  refine ldA (k := 1) hL3 iL_law_745 iL_law_746 iL_law_747 iL_law_748 iL_law_749 (by decide) sc (by omega) ?_
  refine ldA (k := 2) hL3 iL_law_750 iL_law_751 iL_law_752 iL_law_753 iL_law_754 (by decide) sc (by omega) ?_
  refine ldA (k := 3) hL3 iL_law_755 iL_law_756 iL_law_757 iL_law_758 iL_law_759 (by decide) sc (by omega) ?_
  refine At_virt (pc' := 763) iL_law_760 rfl m_12_91 rfl rfl (kdK rfl (kd_1 hL)) (Nat.le_of_ble_eq_true rfl) (Nat.le_of_ble_eq_true rfl) ?_
  refine Op.go I (op_dropped I (xs (i + 1)) (xs (i + 2)) (xs (i + 3))) (fun h1 r sc1 k59 k2 => ?_)
  show At 40 ML_law 763 (lc i) [.int r] h1 Q
  refine At_aload_n (pc' := 764) iL_law_763 rfl rfl ?_
  refine ldA (k := 1) hL3 iL_law_764 iL_law_765 iL_law_766 iL_law_767 iL_law_768 (by decide) sc1 (by omega) ?_
  refine ldA (k := 2) hL3 iL_law_769 iL_law_770 iL_law_771 iL_law_772 iL_law_773 (by decide) sc1 (by omega) ?_
  refine ldA (k := 3) hL3 iL_law_774 iL_law_775 iL_law_776 iL_law_777 iL_law_778 (by decide) sc1 (by omega) ?_
  refine At_virt (pc' := 782) iL_law_779 rfl m_12_95 rfl rfl k59 (Nat.le_of_ble_eq_true rfl) (Nat.le_of_ble_eq_true rfl) ?_
  refine At.mono k2 (fun v h2 k3 => ?_)
  rw [k3.1]
  show At 40 ML_law 782 (lc i) [.int r, .int r] h2 Q
  exact At_icmp_eq (t := 1053) (pc' := 785) iL_law_782 (by decide) rfl (fun _ => K h2 k3.2) (fun z => absurd rfl z)
theorem law_beats (hL3 : L ≤ 3072) (I : Inv L xs h) (hi : i + 6 ≤ L) (K : ∀ h2 : Hp, Inv L xs h2 → At 40 ML_law 1053 (lc i) [] h2 Q) : At 40 ML_law 787 (lc i) [] h Q := by
  have hL := I.1.1
  have sc := I.1.2.2.2.2.2.2
  refine At_aload_n (pc' := 788) iL_law_787 rfl rfl ?_
  refine ldA (k := 1) hL3 iL_law_788 iL_law_789 iL_law_790 iL_law_791 iL_law_792 (by decide) sc (by omega) ?_
  refine ldA (k := 2) hL3 iL_law_793 iL_law_794 iL_law_795 iL_law_796 iL_law_797 (by decide) sc (by omega) ?_
  refine At_virt (pc' := 801) iL_law_798 rfl m_12_96 rfl rfl (kdK rfl (kd_1 hL)) (Nat.le_of_ble_eq_true rfl) (Nat.le_of_ble_eq_true rfl) ?_
  refine Op.go I (op_beats I (xs (i + 1)) (xs (i + 2))) (fun h1 r sc1 k59 k2 => ?_)
  show At 40 ML_law 801 (lc i) [.int r] h1 Q
  refine At_aload_n (pc' := 802) iL_law_801 rfl rfl ?_
  refine ldA (k := 1) hL3 iL_law_802 iL_law_803 iL_law_804 iL_law_805 iL_law_806 (by decide) sc1 (by omega) ?_
  refine ldA (k := 2) hL3 iL_law_807 iL_law_808 iL_law_809 iL_law_810 iL_law_811 (by decide) sc1 (by omega) ?_
  refine At_virt (pc' := 815) iL_law_812 rfl m_12_99 rfl rfl k59 (Nat.le_of_ble_eq_true rfl) (Nat.le_of_ble_eq_true rfl) ?_
  refine At.mono k2 (fun v h2 k3 => ?_)
  rw [k3.1]
  show At 40 ML_law 815 (lc i) [.int r, .int r] h2 Q
  exact At_icmp_eq (t := 1053) (pc' := 818) iL_law_815 (by decide) rfl (fun _ => K h2 k3.2) (fun z => absurd rfl z)
theorem law_name (hL3 : L ≤ 3072) (I : Inv L xs h) (hi : i + 6 ≤ L) (K : ∀ h2 : Hp, Inv L xs h2 → At 40 ML_law 1053 (lc i) [] h2 Q) : At 40 ML_law 820 (lc i) [] h Q := by
  have hL := I.1.1
  have sc := I.1.2.2.2.2.2.2
  refine At_aload_n (pc' := 821) iL_law_820 rfl rfl ?_
  refine ldA (k := 1) hL3 iL_law_821 iL_law_822 iL_law_823 iL_law_824 iL_law_825 (by decide) sc (by omega) ?_
  refine ldA (k := 2) hL3 iL_law_826 iL_law_827 iL_law_828 iL_law_829 iL_law_830 (by decide) sc (by omega) ?_
  refine At_virt (pc' := 834) iL_law_831 rfl m_12_100 rfl rfl (kdK rfl (kd_1 hL)) (Nat.le_of_ble_eq_true rfl) (Nat.le_of_ble_eq_true rfl) ?_
  refine Op.go I (op_name I (xs (i + 1)) (xs (i + 2))) (fun h1 r sc1 k59 k2 => ?_)
  show At 40 ML_law 834 (lc i) [.int r] h1 Q
  refine At_aload_n (pc' := 835) iL_law_834 rfl rfl ?_
  refine ldA (k := 1) hL3 iL_law_835 iL_law_836 iL_law_837 iL_law_838 iL_law_839 (by decide) sc1 (by omega) ?_
  refine ldA (k := 2) hL3 iL_law_840 iL_law_841 iL_law_842 iL_law_843 iL_law_844 (by decide) sc1 (by omega) ?_
  refine At_virt (pc' := 848) iL_law_845 rfl m_12_103 rfl rfl k59 (Nat.le_of_ble_eq_true rfl) (Nat.le_of_ble_eq_true rfl) ?_
  refine At.mono k2 (fun v h2 k3 => ?_)
  rw [k3.1]
  show At 40 ML_law 848 (lc i) [.int r, .int r] h2 Q
  exact At_icmp_eq (t := 1053) (pc' := 851) iL_law_848 (by decide) rfl (fun _ => K h2 k3.2) (fun z => absurd rfl z)
theorem law_lay (hL3 : L ≤ 3072) (I : Inv L xs h) (hi : i + 6 ≤ L) (K : ∀ h2 : Hp, Inv L xs h2 → At 40 ML_law 1053 (lc i) [] h2 Q) : At 40 ML_law 853 (lc i) [] h Q := by
  have hL := I.1.1
  have sc := I.1.2.2.2.2.2.2
  refine At_aload_n (pc' := 854) iL_law_853 rfl rfl ?_
  refine ldA (k := 1) hL3 iL_law_854 iL_law_855 iL_law_856 iL_law_857 iL_law_858 (by decide) sc (by omega) ?_
  refine At_virt (pc' := 862) iL_law_859 rfl m_12_104 rfl rfl (kdK rfl (kd_1 hL)) (Nat.le_of_ble_eq_true rfl) (Nat.le_of_ble_eq_true rfl) ?_
  refine Op.go I (op_lay I (xs (i + 1))) (fun h1 r sc1 k59 k2 => ?_)
  show At 40 ML_law 862 (lc i) [.int r] h1 Q
  refine At_aload_n (pc' := 863) iL_law_862 rfl rfl ?_
  refine ldA (k := 1) hL3 iL_law_863 iL_law_864 iL_law_865 iL_law_866 iL_law_867 (by decide) sc1 (by omega) ?_
  refine At_virt (pc' := 871) iL_law_868 rfl m_12_107 rfl rfl k59 (Nat.le_of_ble_eq_true rfl) (Nat.le_of_ble_eq_true rfl) ?_
  refine At.mono k2 (fun v h2 k3 => ?_)
  rw [k3.1]
  show At 40 ML_law 871 (lc i) [.int r, .int r] h2 Q
  exact At_icmp_eq (t := 1053) (pc' := 874) iL_law_871 (by decide) rfl (fun _ => K h2 k3.2) (fun z => absurd rfl z)
theorem law_pulled (hL3 : L ≤ 3072) (I : Inv L xs h) (hi : i + 6 ≤ L) (K : ∀ h2 : Hp, Inv L xs h2 → At 40 ML_law 1053 (lc i) [] h2 Q) : At 40 ML_law 876 (lc i) [] h Q := by
  have hL := I.1.1
  have sc := I.1.2.2.2.2.2.2
  refine At_aload_n (pc' := 877) iL_law_876 rfl rfl ?_
  refine ldA (k := 1) hL3 iL_law_877 iL_law_878 iL_law_879 iL_law_880 iL_law_881 (by decide) sc (by omega) ?_
  refine At_virt (pc' := 885) iL_law_882 rfl m_12_108 rfl rfl (kdK rfl (kd_1 hL)) (Nat.le_of_ble_eq_true rfl) (Nat.le_of_ble_eq_true rfl) ?_
  refine Op.go I (op_pulled I (xs (i + 1))) (fun h1 r sc1 k59 k2 => ?_)
  show At 40 ML_law 885 (lc i) [.int r] h1 Q
  refine At_aload_n (pc' := 886) iL_law_885 rfl rfl ?_
  refine ldA (k := 1) hL3 iL_law_886 iL_law_887 iL_law_888 iL_law_889 iL_law_890 (by decide) sc1 (by omega) ?_
  refine At_virt (pc' := 894) iL_law_891 rfl m_12_111 rfl rfl k59 (Nat.le_of_ble_eq_true rfl) (Nat.le_of_ble_eq_true rfl) ?_
  refine At.mono k2 (fun v h2 k3 => ?_)
  rw [k3.1]
  show At 40 ML_law 894 (lc i) [.int r, .int r] h2 Q
  exact At_icmp_eq (t := 1053) (pc' := 897) iL_law_894 (by decide) rfl (fun _ => K h2 k3.2) (fun z => absurd rfl z)
theorem law_loops (hL3 : L ≤ 3072) (I : Inv L xs h) (hi : i + 6 ≤ L) (K : ∀ h2 : Hp, Inv L xs h2 → At 40 ML_law 1053 (lc i) [] h2 Q) : At 40 ML_law 899 (lc i) [] h Q := by
  have hL := I.1.1
  have sc := I.1.2.2.2.2.2.2
  refine At_aload_n (pc' := 900) iL_law_899 rfl rfl ?_
  refine ldA (k := 1) hL3 iL_law_900 iL_law_901 iL_law_902 iL_law_903 iL_law_904 (by decide) sc (by omega) ?_
  refine At_virt (pc' := 908) iL_law_905 rfl m_12_112 rfl rfl (kdK rfl (kd_1 hL)) (Nat.le_of_ble_eq_true rfl) (Nat.le_of_ble_eq_true rfl) ?_
  refine Op.go I (op_loops I (xs (i + 1))) (fun h1 r sc1 k59 k2 => ?_)
  show At 40 ML_law 908 (lc i) [.int r] h1 Q
  refine At_aload_n (pc' := 909) iL_law_908 rfl rfl ?_
  refine ldA (k := 1) hL3 iL_law_909 iL_law_910 iL_law_911 iL_law_912 iL_law_913 (by decide) sc1 (by omega) ?_
  refine At_virt (pc' := 917) iL_law_914 rfl m_12_115 rfl rfl k59 (Nat.le_of_ble_eq_true rfl) (Nat.le_of_ble_eq_true rfl) ?_
  refine At.mono k2 (fun v h2 k3 => ?_)
  rw [k3.1]
  show At 40 ML_law 917 (lc i) [.int r, .int r] h2 Q
  exact At_icmp_eq (t := 1053) (pc' := 920) iL_law_917 (by decide) rfl (fun _ => K h2 k3.2) (fun z => absurd rfl z)
theorem law_alike (hL3 : L ≤ 3072) (I : Inv L xs h) (hi : i + 6 ≤ L) (K : ∀ h2 : Hp, Inv L xs h2 → At 40 ML_law 1053 (lc i) [] h2 Q) : At 40 ML_law 922 (lc i) [] h Q := by
  have hL := I.1.1
  have sc := I.1.2.2.2.2.2.2
  refine At_aload_n (pc' := 923) iL_law_922 rfl rfl ?_
  refine ldA (k := 1) hL3 iL_law_923 iL_law_924 iL_law_925 iL_law_926 iL_law_927 (by decide) sc (by omega) ?_
  refine ldA (k := 2) hL3 iL_law_928 iL_law_929 iL_law_930 iL_law_931 iL_law_932 (by decide) sc (by omega) ?_
  refine At_virt (pc' := 936) iL_law_933 rfl m_12_116 rfl rfl (kdK rfl (kd_1 hL)) (Nat.le_of_ble_eq_true rfl) (Nat.le_of_ble_eq_true rfl) ?_
  refine Op.go I (op_alike I (xs (i + 1)) (xs (i + 2))) (fun h1 r sc1 k59 k2 => ?_)
  show At 40 ML_law 936 (lc i) [.int r] h1 Q
  refine At_aload_n (pc' := 937) iL_law_936 rfl rfl ?_
  refine ldA (k := 1) hL3 iL_law_937 iL_law_938 iL_law_939 iL_law_940 iL_law_941 (by decide) sc1 (by omega) ?_
  refine ldA (k := 2) hL3 iL_law_942 iL_law_943 iL_law_944 iL_law_945 iL_law_946 (by decide) sc1 (by omega) ?_
  refine At_virt (pc' := 950) iL_law_947 rfl m_12_119 rfl rfl k59 (Nat.le_of_ble_eq_true rfl) (Nat.le_of_ble_eq_true rfl) ?_
  refine At.mono k2 (fun v h2 k3 => ?_)
  rw [k3.1]
  show At 40 ML_law 950 (lc i) [.int r, .int r] h2 Q
  exact At_icmp_eq (t := 1053) (pc' := 953) iL_law_950 (by decide) rfl (fun _ => K h2 k3.2) (fun z => absurd rfl z)
theorem law_period (hL3 : L ≤ 3072) (I : Inv L xs h) (hi : i + 6 ≤ L) (K : ∀ h2 : Hp, Inv L xs h2 → At 40 ML_law 1053 (lc i) [] h2 Q) : At 40 ML_law 955 (lc i) [] h Q := by
  have hL := I.1.1
  have sc := I.1.2.2.2.2.2.2
  refine At_aload_n (pc' := 956) iL_law_955 rfl rfl ?_
  refine ldA (k := 1) hL3 iL_law_956 iL_law_957 iL_law_958 iL_law_959 iL_law_960 (by decide) sc (by omega) ?_
  refine At_virt (pc' := 964) iL_law_961 rfl m_12_120 rfl rfl (kdK rfl (kd_1 hL)) (Nat.le_of_ble_eq_true rfl) (Nat.le_of_ble_eq_true rfl) ?_
  refine Op.go I (op_period I (xs (i + 1))) (fun h1 r sc1 k59 k2 => ?_)
  show At 40 ML_law 964 (lc i) [.int r] h1 Q
  refine At_aload_n (pc' := 965) iL_law_964 rfl rfl ?_
  refine ldA (k := 1) hL3 iL_law_965 iL_law_966 iL_law_967 iL_law_968 iL_law_969 (by decide) sc1 (by omega) ?_
  refine At_virt (pc' := 973) iL_law_970 rfl m_12_123 rfl rfl k59 (Nat.le_of_ble_eq_true rfl) (Nat.le_of_ble_eq_true rfl) ?_
  refine At.mono k2 (fun v h2 k3 => ?_)
  rw [k3.1]
  show At 40 ML_law 973 (lc i) [.int r, .int r] h2 Q
  exact At_icmp_eq (t := 1053) (pc' := 976) iL_law_973 (by decide) rfl (fun _ => K h2 k3.2) (fun z => absurd rfl z)
theorem law_undo (hL3 : L ≤ 3072) (I : Inv L xs h) (hi : i + 6 ≤ L) (K : ∀ h2 : Hp, Inv L xs h2 → At 40 ML_law 1053 (lc i) [] h2 Q) : At 40 ML_law 978 (lc i) [] h Q := by
  have hL := I.1.1
  have sc := I.1.2.2.2.2.2.2
  refine At_aload_n (pc' := 979) iL_law_978 rfl rfl ?_
  refine At_virt (pc' := 982) iL_law_979 rfl m_12_124 rfl rfl (kdK rfl (kd_1 hL)) (Nat.le_of_ble_eq_true rfl) (Nat.le_of_ble_eq_true rfl) ?_
  refine Op.go I (op_undo I ) (fun h1 r sc1 k59 k2 => ?_)
  show At 40 ML_law 982 (lc i) [.int r] h1 Q
  refine At_aload_n (pc' := 983) iL_law_982 rfl rfl ?_
  refine At_virt (pc' := 986) iL_law_983 rfl m_12_128 rfl rfl k59 (Nat.le_of_ble_eq_true rfl) (Nat.le_of_ble_eq_true rfl) ?_
  refine At.mono k2 (fun v h2 k3 => ?_)
  rw [k3.1]
  show At 40 ML_law 986 (lc i) [.int r, .int r] h2 Q
  exact At_icmp_eq (t := 1053) (pc' := 989) iL_law_986 (by decide) rfl (fun _ => K h2 k3.2) (fun z => absurd rfl z)
theorem law_image0 (hL3 : L ≤ 3072) (I : Inv L xs h) (hi : i + 6 ≤ L) (hb : xs (i + 1) = 0) (oi : Op MX10_image MX11_image [.int (nI 0)] h (Inv L xs)) (K : ∀ h2 : Hp, Inv L xs h2 → At 40 ML_law 1053 (lc i) [] h2 Q) : At 40 ML_law 991 (lc i) [] h Q := by
  have hL := I.1.1
  have sc := I.1.2.2.2.2.2.2
  refine At_aload_n (pc' := 992) iL_law_991 rfl rfl ?_
  refine ldA (k := 1) hL3 iL_law_992 iL_law_993 iL_law_994 iL_law_995 iL_law_996 (by decide) sc (by omega) ?_
  refine At_if_eq (t := 1004) (pc' := 1000) iL_law_997 (by decide) rfl (fun _ => ?_) (fun z => absurd hb z)
  refine At_iconst (v := nI 0) (pc' := 1005) iL_law_1004 rfl (by decide) ?_
  refine At_virt (pc' := 1008) iL_law_1005 rfl m_12_129 rfl rfl (kdK rfl (kd_1 hL)) (Nat.le_of_ble_eq_true rfl) (Nat.le_of_ble_eq_true rfl) ?_
  refine Op.go I (oi) (fun h1 r sc1 k59 k2 => ?_)
  show At 40 ML_law 1008 (lc i) [.int r] h1 Q
  refine At_aload_n (pc' := 1009) iL_law_1008 rfl rfl ?_
  refine ldA (k := 1) hL3 iL_law_1009 iL_law_1010 iL_law_1011 iL_law_1012 iL_law_1013 (by decide) sc1 (by omega) ?_
  refine At_if_eq (t := 1021) (pc' := 1017) iL_law_1014 (by decide) rfl (fun _ => ?_) (fun z => absurd hb z)
  refine At_iconst (v := nI 0) (pc' := 1022) iL_law_1021 rfl (by decide) ?_
  refine At_virt (pc' := 1025) iL_law_1022 rfl m_12_133 rfl rfl k59 (Nat.le_of_ble_eq_true rfl) (Nat.le_of_ble_eq_true rfl) ?_
  refine At.mono k2 (fun v h2 k3 => ?_)
  rw [k3.1]
  show At 40 ML_law 1025 (lc i) [.int r, .int r] h2 Q
  exact At_icmp_eq (t := 1053) (pc' := 1028) iL_law_1025 (by decide) rfl (fun _ => K h2 k3.2) (fun z => absurd rfl z)
theorem law_image1 (hL3 : L ≤ 3072) (I : Inv L xs h) (hi : i + 6 ≤ L) (hb : ¬ xs (i + 1) = 0) (oi : Op MX10_image MX11_image [.int (nI 1)] h (Inv L xs)) (K : ∀ h2 : Hp, Inv L xs h2 → At 40 ML_law 1053 (lc i) [] h2 Q) : At 40 ML_law 991 (lc i) [] h Q := by
  have hL := I.1.1
  have sc := I.1.2.2.2.2.2.2
  refine At_aload_n (pc' := 992) iL_law_991 rfl rfl ?_
  refine ldA (k := 1) hL3 iL_law_992 iL_law_993 iL_law_994 iL_law_995 iL_law_996 (by decide) sc (by omega) ?_
  refine At_if_eq (t := 1004) (pc' := 1000) iL_law_997 (by decide) rfl (fun z => absurd z hb) (fun _ => ?_)
  refine At_iconst (v := nI 1) (pc' := 1001) iL_law_1000 rfl (by decide) ?_
  refine At_goto (t := 1005) iL_law_1001 (by decide) ?_
  refine At_virt (pc' := 1008) iL_law_1005 rfl m_12_129 rfl rfl (kdK rfl (kd_1 hL)) (Nat.le_of_ble_eq_true rfl) (Nat.le_of_ble_eq_true rfl) ?_
  refine Op.go I (oi) (fun h1 r sc1 k59 k2 => ?_)
  show At 40 ML_law 1008 (lc i) [.int r] h1 Q
  refine At_aload_n (pc' := 1009) iL_law_1008 rfl rfl ?_
  refine ldA (k := 1) hL3 iL_law_1009 iL_law_1010 iL_law_1011 iL_law_1012 iL_law_1013 (by decide) sc1 (by omega) ?_
  refine At_if_eq (t := 1021) (pc' := 1017) iL_law_1014 (by decide) rfl (fun z => absurd z hb) (fun _ => ?_)
  refine At_iconst (v := nI 1) (pc' := 1018) iL_law_1017 rfl (by decide) ?_
  refine At_goto (t := 1022) iL_law_1018 (by decide) ?_
  refine At_virt (pc' := 1025) iL_law_1022 rfl m_12_133 rfl rfl k59 (Nat.le_of_ble_eq_true rfl) (Nat.le_of_ble_eq_true rfl) ?_
  refine At.mono k2 (fun v h2 k3 => ?_)
  rw [k3.1]
  show At 40 ML_law 1025 (lc i) [.int r, .int r] h2 Q
  exact At_icmp_eq (t := 1053) (pc' := 1028) iL_law_1025 (by decide) rfl (fun _ => K h2 k3.2) (fun z => absurd rfl z)
theorem law_look (hL3 : L ≤ 3072) (I : Inv L xs h) (hi : i + 6 ≤ L) (K : ∀ h2 : Hp, Inv L xs h2 → At 40 ML_law 1053 (lc i) [] h2 Q) : At 40 ML_law 1030 (lc i) [] h Q := by
  have hL := I.1.1
  have sc := I.1.2.2.2.2.2.2
  refine At_aload_n (pc' := 1031) iL_law_1030 rfl rfl ?_
  refine ldA (k := 1) hL3 iL_law_1031 iL_law_1032 iL_law_1033 iL_law_1034 iL_law_1035 (by decide) sc (by omega) ?_
  refine At_virt (pc' := 1039) iL_law_1036 rfl m_12_134 rfl rfl (kdK rfl (kd_1 hL)) (Nat.le_of_ble_eq_true rfl) (Nat.le_of_ble_eq_true rfl) ?_
  refine Op.go I (op_look' I (xs (i + 1))) (fun h1 r sc1 k59 k2 => ?_)
  show At 40 ML_law 1039 (lc i) [.int r] h1 Q
  refine At_aload_n (pc' := 1040) iL_law_1039 rfl rfl ?_
  refine ldA (k := 1) hL3 iL_law_1040 iL_law_1041 iL_law_1042 iL_law_1043 iL_law_1044 (by decide) sc1 (by omega) ?_
  refine At_virt (pc' := 1048) iL_law_1045 rfl m_12_137 rfl rfl k59 (Nat.le_of_ble_eq_true rfl) (Nat.le_of_ble_eq_true rfl) ?_
  refine At.mono k2 (fun v h2 k3 => ?_)
  rw [k3.1]
  show At 40 ML_law 1048 (lc i) [.int r, .int r] h2 Q
  exact At_icmp_eq (t := 1053) (pc' := 1051) iL_law_1048 (by decide) rfl (fun _ => K h2 k3.2) (fun z => absurd rfl z)
theorem and31 (x : Int32) : ∃ k, k < 32 ∧ x &&& nI 31 = nI k := by
  obtain ⟨j, hj, e⟩ := pk_andE x (m := nI 31) 5 (by decide)
  exact ⟨j, by omega, e⟩
theorem law_loop (hL3 : L ≤ 3072) (oi : ∀ (h : Hp) (y : Nat), y < 2 → Inv L xs h → Op MX10_image MX11_image [.int (nI y)] h (Inv L xs)) (K : ∀ h2 : Hp, Inv L xs h2 → Q (some (.int 1)) h2) : ∀ m i (h : Hp), L ≤ i + m → i ≤ L + 6 → Inv L xs h → At 40 ML_law 18 (lc i) [] h Q := by
  intro m
  have fin : ∀ i (h : Hp), L < i + 6 → i ≤ L + 6 → Inv L xs h → At 40 ML_law 18 (lc i) [] h Q := by
    intro i h hi hi2 I
    refine At_iload_n (pc' := 19) iL_law_18 rfl rfl ?_
    refine At_aload_n (pc' := 20) iL_law_19 rfl rfl ?_
    refine At_alen (pc' := 21) iL_law_20 rfl I.1.2.2.2.2.2.2.1 (by decide) ?_
    refine At_bipush (v := nI 6) (pc' := 23) iL_law_21 rfl (by decide) ?_
    refine At_isub (pc' := 24) iL_law_23 rfl ?_
    refine At_icmp_gt (t := 1059) (pc' := 27) iL_law_24 (by decide) rfl (fun _ => ?_) (fun z => ?_)
    · refine At_iconst (v := nI 1) (pc' := 1060) iL_law_1059 rfl (by decide) ?_
      exact At_retZ iL_law_1060 rfl (Or.inr (by decide)) (K h I)
    · refine absurd ?_ z
      rw [Int32.lt_iff_toInt_lt, pk_sub_toInt (by omega) (by decide), nI_toInt (by omega)]
      omega
  induction m with
  | zero => exact fun i h hm hi I => fin i h (by omega) hi I
  | succ m ih =>
    intro i h hm hi2 I
    rcases Nat.lt_or_ge L (i + 6) with q | hi
    · exact fin i h q hi2 I
    · have K2 : ∀ h2 : Hp, Inv L xs h2 → At 40 ML_law 1053 (lc i) [] h2 Q := by
        intro h2 I2
        refine At_iinc (v := nI 6) (L' := lc (i + 6)) (pc' := 1056) iL_law_1053 rfl rfl (Nat.le_of_ble_eq_true rfl) (by decide) (by rw [nI_add]; rfl) ?_
        exact At_goto (t := 18) iL_law_1056 (by decide) (ih (i + 6) h2 (by omega) (by omega) I2)
      have sc := I.1.2.2.2.2.2.2
      refine At_iload_n (pc' := 19) iL_law_18 rfl rfl ?_
      refine At_aload_n (pc' := 20) iL_law_19 rfl rfl ?_
      refine At_alen (pc' := 21) iL_law_20 rfl sc.1 (by decide) ?_
      refine At_bipush (v := nI 6) (pc' := 23) iL_law_21 rfl (by decide) ?_
      refine At_isub (pc' := 24) iL_law_23 rfl ?_
      rw [pk_sub (by omega)]
      refine At_icmp_gt (t := 1059) (pc' := 27) iL_law_24 (by decide) rfl (fun z => absurd z (nI_nlt (by omega) (by omega))) (fun _ => ?_)
      refine At_aload_n (pc' := 28) iL_law_27 rfl rfl ?_
      refine At_iload_n (pc' := 29) iL_law_28 rfl rfl ?_
      refine At_sald (pc' := 30) iL_law_29 rfl sc.1 ((inB_iff (by omega)).mpr (by omega)) ?_
      refine At_bipush (v := nI 31) (pc' := 32) iL_law_30 rfl (by decide) ?_
      refine At_iand (pc' := 33) iL_law_32 rfl ?_
      obtain ⟨k, hk, e⟩ := and31 (gI h 0 (nI i).toNatClampNeg)
      rw [e]
      by_cases z0 : k = 0
      · subst z0
        refine At_tabIn (o := 131) (t := 164) iL_law_33 (by decide) (by decide) (by decide) ?_
        exact law_state hL3 I hi K2
      by_cases z1 : k = 1
      · subst z1
        refine At_tabIn (o := 154) (t := 187) iL_law_33 (by decide) (by decide) (by decide) ?_
        exact law_stool hL3 I hi K2
      by_cases z2 : k = 2
      · subst z2
        refine At_tabIn (o := 177) (t := 210) iL_law_33 (by decide) (by decide) (by decide) ?_
        exact law_colour hL3 I hi K2
      by_cases z3 : k = 3
      · subst z3
        refine At_tabIn (o := 210) (t := 243) iL_law_33 (by decide) (by decide) (by decide) ?_
        exact law_slip hL3 I hi K2
      by_cases z4 : k = 4
      · subst z4
        refine At_tabIn (o := 233) (t := 266) iL_law_33 (by decide) (by decide) (by decide) ?_
        exact law_feed hL3 I hi K2
      by_cases z5 : k = 5
      · subst z5
        refine At_tabIn (o := 296) (t := 329) iL_law_33 (by decide) (by decide) (by decide) ?_
        exact law_end hL3 I hi K2
      by_cases z6 : k = 6
      · subst z6
        refine At_tabIn (o := 319) (t := 352) iL_law_33 (by decide) (by decide) (by decide) ?_
        exact law_text hL3 I hi K2
      by_cases z7 : k = 7
      · subst z7
        refine At_tabIn (o := 342) (t := 375) iL_law_33 (by decide) (by decide) (by decide) ?_
        exact law_fault hL3 I hi K2
      by_cases z8 : k = 8
      · subst z8
        refine At_tabIn (o := 365) (t := 398) iL_law_33 (by decide) (by decide) (by decide) ?_
        exact law_sing hL3 I hi K2
      by_cases z9 : k = 9
      · subst z9
        refine At_tabIn (o := 398) (t := 431) iL_law_33 (by decide) (by decide) (by decide) ?_
        exact law_at hL3 I hi K2
      by_cases z10 : k = 10
      · subst z10
        refine At_tabIn (o := 431) (t := 464) iL_law_33 (by decide) (by decide) (by decide) ?_
        exact law_of hL3 I hi K2
      by_cases z11 : k = 11
      · subst z11
        refine At_tabIn (o := 464) (t := 497) iL_law_33 (by decide) (by decide) (by decide) ?_
        exact law_over hL3 I hi K2
      by_cases z12 : k = 12
      · subst z12
        refine At_tabIn (o := 497) (t := 530) iL_law_33 (by decide) (by decide) (by decide) ?_
        exact law_outside hL3 I hi K2
      by_cases z13 : k = 13
      · subst z13
        refine At_tabIn (o := 530) (t := 563) iL_law_33 (by decide) (by decide) (by decide) ?_
        exact law_back hL3 I hi K2
      by_cases z14 : k = 14
      · subst z14
        refine At_tabIn (o := 563) (t := 596) iL_law_33 (by decide) (by decide) (by decide) ?_
        by_cases hb : xs (i + 4) = 0
        · exact law_where0 hL3 I hi hb K2
        · exact law_where1 hL3 I hi hb K2
      by_cases z15 : k = 15
      · subst z15
        refine At_tabIn (o := 632) (t := 665) iL_law_33 (by decide) (by decide) (by decide) ?_
        exact law_want hL3 I hi K2
      by_cases z16 : k = 16
      · subst z16
        refine At_tabIn (o := 665) (t := 698) iL_law_33 (by decide) (by decide) (by decide) ?_
        exact law_fewest hL3 I hi K2
      by_cases z17 : k = 17
      · subst z17
        refine At_tabIn (o := 688) (t := 721) iL_law_33 (by decide) (by decide) (by decide) ?_
        exact law_cut hL3 I hi K2
      by_cases z18 : k = 18
      · subst z18
        refine At_tabIn (o := 711) (t := 744) iL_law_33 (by decide) (by decide) (by decide) ?_
        exact law_dropped hL3 I hi K2
      by_cases z19 : k = 19
      · subst z19
        refine At_tabIn (o := 754) (t := 787) iL_law_33 (by decide) (by decide) (by decide) ?_
        exact law_beats hL3 I hi K2
      by_cases z20 : k = 20
      · subst z20
        refine At_tabIn (o := 787) (t := 820) iL_law_33 (by decide) (by decide) (by decide) ?_
        exact law_name hL3 I hi K2
      by_cases z21 : k = 21
      · subst z21
        refine At_tabIn (o := 820) (t := 853) iL_law_33 (by decide) (by decide) (by decide) ?_
        exact law_lay hL3 I hi K2
      by_cases z22 : k = 22
      · subst z22
        refine At_tabIn (o := 843) (t := 876) iL_law_33 (by decide) (by decide) (by decide) ?_
        exact law_pulled hL3 I hi K2
      by_cases z23 : k = 23
      · subst z23
        refine At_tabIn (o := 866) (t := 899) iL_law_33 (by decide) (by decide) (by decide) ?_
        exact law_loops hL3 I hi K2
      by_cases z24 : k = 24
      · subst z24
        refine At_tabIn (o := 889) (t := 922) iL_law_33 (by decide) (by decide) (by decide) ?_
        exact law_alike hL3 I hi K2
      by_cases z25 : k = 25
      · subst z25
        refine At_tabIn (o := 922) (t := 955) iL_law_33 (by decide) (by decide) (by decide) ?_
        exact law_period hL3 I hi K2
      by_cases z26 : k = 26
      · subst z26
        refine At_tabIn (o := 945) (t := 978) iL_law_33 (by decide) (by decide) (by decide) ?_
        exact law_undo hL3 I hi K2
      by_cases z27 : k = 27
      · subst z27
        refine At_tabIn (o := 958) (t := 991) iL_law_33 (by decide) (by decide) (by decide) ?_
        by_cases hb : xs (i + 1) = 0
        · exact law_image0 hL3 I hi hb (oi h 0 (by decide) I) K2
        · exact law_image1 hL3 I hi hb (oi h 1 (by decide) I) K2
      by_cases z28 : k = 28
      · subst z28
        refine At_tabIn (o := 997) (t := 1030) iL_law_33 (by decide) (by decide) (by decide) ?_
        exact law_look hL3 I hi K2
      refine At_tabOut (t := 1053) iL_law_33 (Or.inr ?_) (by decide) (K2 h I)
      rw [nI_toInt (by omega)]
      omega
end Law

/-! ===== the law, case by case ===== -/
section LCS
variable {p : Program} {l : Launch} {e : Env} {s : State} {m : MethodId} {args : Array Value} {below : List Frame} {meth : Method} {c : Code} {H : Heap} {locs : List Loc} {Q : State → Prop}
variable {ls : Array Slot} {G : WG} {a bb : Nat → Nat} {o b i L c0 s0 : Nat} {S : CS} {n : Nat × Nat × Nat} {M : MS} {f : Nat → Int64} {xs : Nat → Int32}
/-- what holds at a case of the law -/
abbrev lcIn (p : Program) (l : Launch) (s : State) (m : MethodId) (args : Array Value) (c : Code) (H : Heap) (locs : List Loc) (ls : Array Slot) (G : WG) (a bb : Nat → Nat) (o b i L c0 s0 : Nat) (S : CS) (n : Nat × Nat × Nat) (M : MS) (f : Nat → Int64) (xs : Nat → Int32) : Prop :=
  l.stackTraces = false ∧ LAp a bb o s.heap.size ∧ LS9 p m c s args ∧ wK G s ∧ lEnv s ∧ va_X b L xs s s.heap ∧ b < s.heap.size ∧ L ≤ 2048 ∧ i + 4 ≤ L ∧ (c0 + 2 ≤ room_1.cells ∧ s0 + 12 ≤ room_1.slots) ∧ Iv n dd S M ∧ wC G a S H ∧ wM G bb n M H ∧ va_P G.1 vwCl (lO G o f) H ∧ va_S (LF s.heap.size) s.heap H locs ∧ lv_has ls 7 [(4, .int (nI i)), (0, .ref b), (1, .ref (a 0)), (2, .ref (bb 0)), (3, .ref o)]
abbrev lcK (p : Program) (l : Launch) (e : Env) (s : State) (m : MethodId) (args : Array Value) (below : List Frame) (meth : Method) (c : Code) (Q : State → Prop) (G : WG) (a bb : Nat → Nat) (o b i c0 s0 : Nat) : Prop :=
  ∀ (n2 : Nat × Nat × Nat) (S2 : CS) (M2 : MS) (f2 : Nat → Int64) (H1 : Heap) (locs1 : List Loc) (ls1 : Array Slot), Iv n2 dd S2 M2 → wC G a S2 H1 → wM G bb n2 M2 H1 → va_P G.1 vwCl (lO G o f2) H1 → va_S (LF s.heap.size) s.heap H1 locs1 → lv_has ls1 7 [(4, .int (nI i)), (0, .ref b), (1, .ref (a 0)), (2, .ref (bb 0)), (3, .ref o)] → W p l e room_1 s m args below meth c H1 locs1 (c0 + 2) (s0 + 12) Q (F0 m 1653 ls1 [])
set_option maxHeartbeats 4000000 in
set_option maxRecDepth 100000 in
theorem lc_addLoad (I : lcIn p l s m args c H locs ls G a bb o b i L c0 s0 S n M f xs) (KK : lcK p l e s m args below meth c Q G a bb o b i c0 s0) : W p l e room_1 s m args below meth c H locs c0 s0 Q (F0 m 172 ls []) := by
  obtain ⟨hst, hL, S9, hK, hE, hX, hbl, hLL, hi, hf, h, hC, hM, hO, hS, hl⟩ := I
  have S9c := S9
  obtain ⟨hx, hb, hml, hown, hts⟩ := S9c
  refine lv_aload_n hx hb dL_law_172 rfl (lv_at hl 2 rfl) ?_
  refine lwArg (j := 1) (v := 1) hx hb hX hbl hS hLL (by omega) (lv_at hl 1 rfl) (lv_at hl 0 rfl) rfl rfl dL_law_173 dL_law_174 dL_law_176 dL_law_177 dL_law_178 ?_
  refine lwArg (j := 2) (v := 2) hx hb hX hbl hS hLL (by omega) (lv_at hl 1 rfl) (lv_at hl 0 rfl) rfl rfl dL_law_179 dL_law_180 dL_law_182 dL_law_183 dL_law_184 ?_
  refine lv_aload_n hx hb dL_law_185 rfl (lv_at hl 4 rfl) ?_
  have hA := a_addLoad h (xs (i + 1)) (xs (i + 2))
  refine lwH (r := r0112) (As := [.ref (a 0), .int (xs (i + 1)), .int (xs (i + 2)), .ref o]) (rest := []) hL S9 hK hE hC hM hO hS (c_L_addLoad l G a hL.1 o hL.2.2.2.1 hst (xs (i + 1)) (xs (i + 2)) S ⟨n.1, h.ok.1, h.2.1.1⟩ f hA.cd H.size) (vx_cwSW 4 hts gL_law_L_addLoad rfl rfl rfl (by decide +kernel) ⟨Nat.le_of_ble_eq_true rfl, Nat.le_of_ble_eq_true rfl⟩) rfl hl.1 rfl (Nat.le_of_ble_eq_true rfl) dL_law_186 ⟨by omega, by omega⟩ (fun H locs hC hM hO hS => ?_)
  obtain ⟨e1, e2, e3⟩ := hA.law f
  generalize hR r0112 (f_X3_addLoad (xs (i + 1)) (xs (i + 2)) S) f = u at hC hO e1 e2 e3 ⊢
  refine lv_istore (lv' := [(5, .int u.1), (4, .int (nI i)), (0, .ref b), (1, .ref (a 0)), (2, .ref (bb 0)), (3, .ref o)]) hx hb dL_law_189 hl (by decide) rfl (fun ls hl => ?_)
  refine lv_aload_n hx hb dL_law_191 rfl (lv_at hl 4 rfl) ?_
  refine lwArg (j := 1) (v := 1) hx hb hX hbl hS hLL (by omega) (lv_at hl 2 rfl) (lv_at hl 1 rfl) rfl rfl dL_law_192 dL_law_193 dL_law_195 dL_law_196 dL_law_197 ?_
  refine lwArg (j := 2) (v := 2) hx hb hX hbl hS hLL (by omega) (lv_at hl 2 rfl) (lv_at hl 1 rfl) rfl rfl dL_law_198 dL_law_199 dL_law_201 dL_law_202 dL_law_203 ?_
  refine lwM (wf := fun q : (Nat × Nat × Nat) × MS => MW G.2 bb q.1 q.2) (u0 := (n, M)) (As := [.int (xs (i + 1)), .int (xs (i + 2))]) (rest := []) hL S9 hK hC hM hO hS (c_X4_addLoad l G bb hL.2.1 n h.ok (xs (i + 1)) (xs (i + 2)) M H.size) (cwV 2 hts gL_law_X4_addLoad rfl rfl rfl (by decide +kernel) ⟨Nat.le_of_ble_eq_true rfl, Nat.le_of_ble_eq_true rfl⟩) (mrO hK hM) rfl hl.1 rfl (Nat.le_of_ble_eq_true rfl) dL_law_204 ⟨by omega, by omega⟩ (fun p1 H locs ep hC hM hO hS => ?_)
  subst ep
  exact lwT (n := (f_X4_addLoad n (xs (i + 1)) (xs (i + 2)) M).2.1) (M := (f_X4_addLoad n (xs (i + 1)) (xs (i + 2)) M).2.2) (k2 := u.1) (b2 := (f_X4_addLoad n (xs (i + 1)) (xs (i + 2)) M).1) (c0 := c0 + 2) (s0 := s0 + 12) hL S9 hK e3.ok hC hM hO hS hl e1 e2 ⟨by omega, by omega⟩ hf dL_law_207 dL_law_209 dL_law_210 dL_law_213 dL_law_215 dL_law_220 dL_law_222 dL_law_225 dL_law_226 dL_law_227 dL_law_228 dL_law_230 dL_law_231 dL_law_232 dL_law_237 (by decide) (fun H1 locs1 ls1 hC hM hO hS hl => KK _ _ _ _ _ _ _ e3 hC hM hO hS hl)
set_option maxHeartbeats 4000000 in
set_option maxRecDepth 100000 in
theorem lc_addBattery (I : lcIn p l s m args c H locs ls G a bb o b i L c0 s0 S n M f xs) (KK : lcK p l e s m args below meth c Q G a bb o b i c0 s0) : W p l e room_1 s m args below meth c H locs c0 s0 Q (F0 m 240 ls []) := by
  obtain ⟨hst, hL, S9, hK, hE, hX, hbl, hLL, hi, hf, h, hC, hM, hO, hS, hl⟩ := I
  have S9c := S9
  obtain ⟨hx, hb, hml, hown, hts⟩ := S9c
  refine lv_aload_n hx hb dL_law_240 rfl (lv_at hl 2 rfl) ?_
  refine lwArg (j := 1) (v := 1) hx hb hX hbl hS hLL (by omega) (lv_at hl 1 rfl) (lv_at hl 0 rfl) rfl rfl dL_law_241 dL_law_242 dL_law_244 dL_law_245 dL_law_246 ?_
  refine lwArg (j := 2) (v := 2) hx hb hX hbl hS hLL (by omega) (lv_at hl 1 rfl) (lv_at hl 0 rfl) rfl rfl dL_law_247 dL_law_248 dL_law_250 dL_law_251 dL_law_252 ?_
  refine lwArg (j := 3) (v := 3) hx hb hX hbl hS hLL (by omega) (lv_at hl 1 rfl) (lv_at hl 0 rfl) rfl rfl dL_law_253 dL_law_254 dL_law_256 dL_law_257 dL_law_258 ?_
  refine lv_aload_n hx hb dL_law_259 rfl (lv_at hl 4 rfl) ?_
  have hA := a_addBattery h (xs (i + 1)) (xs (i + 2)) (xs (i + 3))
  refine lwH (r := r0112) (As := [.ref (a 0), .int (xs (i + 1)), .int (xs (i + 2)), .int (xs (i + 3)), .ref o]) (rest := []) hL S9 hK hE hC hM hO hS (c_L_addBattery l G a hL.1 o hL.2.2.2.1 hst (xs (i + 1)) (xs (i + 2)) (xs (i + 3)) S ⟨n.2.1, h.ok.2.1, h.2.1.2.1⟩ f hA.cd H.size) (vx_cwSW 5 hts gL_law_L_addBattery rfl rfl rfl (by decide +kernel) ⟨Nat.le_of_ble_eq_true rfl, Nat.le_of_ble_eq_true rfl⟩) rfl hl.1 rfl (Nat.le_of_ble_eq_true rfl) dL_law_260 ⟨by omega, by omega⟩ (fun H locs hC hM hO hS => ?_)
  obtain ⟨e1, e2, e3⟩ := hA.law f
  generalize hR r0112 (f_X3_addBattery (xs (i + 1)) (xs (i + 2)) (xs (i + 3)) S) f = u at hC hO e1 e2 e3 ⊢
  refine lv_istore (lv' := [(5, .int u.1), (4, .int (nI i)), (0, .ref b), (1, .ref (a 0)), (2, .ref (bb 0)), (3, .ref o)]) hx hb dL_law_263 hl (by decide) rfl (fun ls hl => ?_)
  refine lv_aload_n hx hb dL_law_265 rfl (lv_at hl 4 rfl) ?_
  refine lwArg (j := 1) (v := 1) hx hb hX hbl hS hLL (by omega) (lv_at hl 2 rfl) (lv_at hl 1 rfl) rfl rfl dL_law_266 dL_law_267 dL_law_269 dL_law_270 dL_law_271 ?_
  refine lwArg (j := 2) (v := 2) hx hb hX hbl hS hLL (by omega) (lv_at hl 2 rfl) (lv_at hl 1 rfl) rfl rfl dL_law_272 dL_law_273 dL_law_275 dL_law_276 dL_law_277 ?_
  refine lwArg (j := 3) (v := 3) hx hb hX hbl hS hLL (by omega) (lv_at hl 2 rfl) (lv_at hl 1 rfl) rfl rfl dL_law_278 dL_law_279 dL_law_281 dL_law_282 dL_law_283 ?_
  refine lwM (wf := fun q : (Nat × Nat × Nat) × MS => MW G.2 bb q.1 q.2) (u0 := (n, M)) (As := [.int (xs (i + 1)), .int (xs (i + 2)), .int (xs (i + 3))]) (rest := []) hL S9 hK hC hM hO hS (c_X4_addBattery l G bb hL.2.1 n h.ok (xs (i + 1)) (xs (i + 2)) (xs (i + 3)) M H.size) (cwV 3 hts gL_law_X4_addBattery rfl rfl rfl (by decide +kernel) ⟨Nat.le_of_ble_eq_true rfl, Nat.le_of_ble_eq_true rfl⟩) (mrO hK hM) rfl hl.1 rfl (Nat.le_of_ble_eq_true rfl) dL_law_284 ⟨by omega, by omega⟩ (fun p1 H locs ep hC hM hO hS => ?_)
  subst ep
  exact lwT (n := (f_X4_addBattery n (xs (i + 1)) (xs (i + 2)) (xs (i + 3)) M).2.1) (M := (f_X4_addBattery n (xs (i + 1)) (xs (i + 2)) (xs (i + 3)) M).2.2) (k2 := u.1) (b2 := (f_X4_addBattery n (xs (i + 1)) (xs (i + 2)) (xs (i + 3)) M).1) (c0 := c0 + 2) (s0 := s0 + 12) hL S9 hK e3.ok hC hM hO hS hl e1 e2 ⟨by omega, by omega⟩ hf dL_law_287 dL_law_289 dL_law_290 dL_law_293 dL_law_295 dL_law_300 dL_law_302 dL_law_305 dL_law_306 dL_law_307 dL_law_308 dL_law_310 dL_law_311 dL_law_312 dL_law_317 (by decide) (fun H1 locs1 ls1 hC hM hO hS hl => KK _ _ _ _ _ _ _ e3 hC hM hO hS hl)
set_option maxHeartbeats 4000000 in
set_option maxRecDepth 100000 in
theorem lc_addGenerator (I : lcIn p l s m args c H locs ls G a bb o b i L c0 s0 S n M f xs) (KK : lcK p l e s m args below meth c Q G a bb o b i c0 s0) : W p l e room_1 s m args below meth c H locs c0 s0 Q (F0 m 320 ls []) := by
  obtain ⟨hst, hL, S9, hK, hE, hX, hbl, hLL, hi, hf, h, hC, hM, hO, hS, hl⟩ := I
  have S9c := S9
  obtain ⟨hx, hb, hml, hown, hts⟩ := S9c
  refine lv_aload_n hx hb dL_law_320 rfl (lv_at hl 2 rfl) ?_
  refine lwArg (j := 1) (v := 1) hx hb hX hbl hS hLL (by omega) (lv_at hl 1 rfl) (lv_at hl 0 rfl) rfl rfl dL_law_321 dL_law_322 dL_law_324 dL_law_325 dL_law_326 ?_
  refine lwArg (j := 2) (v := 2) hx hb hX hbl hS hLL (by omega) (lv_at hl 1 rfl) (lv_at hl 0 rfl) rfl rfl dL_law_327 dL_law_328 dL_law_330 dL_law_331 dL_law_332 ?_
  refine lwArg (j := 3) (v := 3) hx hb hX hbl hS hLL (by omega) (lv_at hl 1 rfl) (lv_at hl 0 rfl) rfl rfl dL_law_333 dL_law_334 dL_law_336 dL_law_337 dL_law_338 ?_
  refine lv_aload_n hx hb dL_law_339 rfl (lv_at hl 4 rfl) ?_
  have hA := a_addGenerator h (xs (i + 1)) (xs (i + 2)) (xs (i + 3))
  refine lwH (r := r0112) (As := [.ref (a 0), .int (xs (i + 1)), .int (xs (i + 2)), .int (xs (i + 3)), .ref o]) (rest := []) hL S9 hK hE hC hM hO hS (c_L_addGenerator l G a hL.1 o hL.2.2.2.1 hst (xs (i + 1)) (xs (i + 2)) (xs (i + 3)) S ⟨n.2.2, h.ok.2.2, h.2.1.2.2.1⟩ f hA.cd H.size) (vx_cwSW 5 hts gL_law_L_addGenerator rfl rfl rfl (by decide +kernel) ⟨Nat.le_of_ble_eq_true rfl, Nat.le_of_ble_eq_true rfl⟩) rfl hl.1 rfl (Nat.le_of_ble_eq_true rfl) dL_law_340 ⟨by omega, by omega⟩ (fun H locs hC hM hO hS => ?_)
  obtain ⟨e1, e2, e3⟩ := hA.law f
  generalize hR r0112 (f_X3_addGenerator (xs (i + 1)) (xs (i + 2)) (xs (i + 3)) S) f = u at hC hO e1 e2 e3 ⊢
  refine lv_istore (lv' := [(5, .int u.1), (4, .int (nI i)), (0, .ref b), (1, .ref (a 0)), (2, .ref (bb 0)), (3, .ref o)]) hx hb dL_law_343 hl (by decide) rfl (fun ls hl => ?_)
  refine lv_aload_n hx hb dL_law_345 rfl (lv_at hl 4 rfl) ?_
  refine lwArg (j := 1) (v := 1) hx hb hX hbl hS hLL (by omega) (lv_at hl 2 rfl) (lv_at hl 1 rfl) rfl rfl dL_law_346 dL_law_347 dL_law_349 dL_law_350 dL_law_351 ?_
  refine lwArg (j := 2) (v := 2) hx hb hX hbl hS hLL (by omega) (lv_at hl 2 rfl) (lv_at hl 1 rfl) rfl rfl dL_law_352 dL_law_353 dL_law_355 dL_law_356 dL_law_357 ?_
  refine lwArg (j := 3) (v := 3) hx hb hX hbl hS hLL (by omega) (lv_at hl 2 rfl) (lv_at hl 1 rfl) rfl rfl dL_law_358 dL_law_359 dL_law_361 dL_law_362 dL_law_363 ?_
  refine lwM (wf := fun q : (Nat × Nat × Nat) × MS => MW G.2 bb q.1 q.2) (u0 := (n, M)) (As := [.int (xs (i + 1)), .int (xs (i + 2)), .int (xs (i + 3))]) (rest := []) hL S9 hK hC hM hO hS (c_X4_addGenerator l G bb hL.2.1 n h.ok (xs (i + 1)) (xs (i + 2)) (xs (i + 3)) M H.size) (cwV 3 hts gL_law_X4_addGenerator rfl rfl rfl (by decide +kernel) ⟨Nat.le_of_ble_eq_true rfl, Nat.le_of_ble_eq_true rfl⟩) (mrO hK hM) rfl hl.1 rfl (Nat.le_of_ble_eq_true rfl) dL_law_364 ⟨by omega, by omega⟩ (fun p1 H locs ep hC hM hO hS => ?_)
  subst ep
  exact lwT (n := (f_X4_addGenerator n (xs (i + 1)) (xs (i + 2)) (xs (i + 3)) M).2.1) (M := (f_X4_addGenerator n (xs (i + 1)) (xs (i + 2)) (xs (i + 3)) M).2.2) (k2 := u.1) (b2 := (f_X4_addGenerator n (xs (i + 1)) (xs (i + 2)) (xs (i + 3)) M).1) (c0 := c0 + 2) (s0 := s0 + 12) hL S9 hK e3.ok hC hM hO hS hl e1 e2 ⟨by omega, by omega⟩ hf dL_law_367 dL_law_369 dL_law_370 dL_law_373 dL_law_375 dL_law_380 dL_law_382 dL_law_385 dL_law_386 dL_law_387 dL_law_388 dL_law_390 dL_law_391 dL_law_392 dL_law_397 (by decide) (fun H1 locs1 ls1 hC hM hO hS hl => KK _ _ _ _ _ _ _ e3 hC hM hO hS hl)
set_option maxHeartbeats 4000000 in
set_option maxRecDepth 100000 in
theorem lc_switchLoad (I : lcIn p l s m args c H locs ls G a bb o b i L c0 s0 S n M f xs) (KK : lcK p l e s m args below meth c Q G a bb o b i c0 s0) : W p l e room_1 s m args below meth c H locs c0 s0 Q (F0 m 400 ls []) := by
  obtain ⟨hst, hL, S9, hK, hE, hX, hbl, hLL, hi, hf, h, hC, hM, hO, hS, hl⟩ := I
  have S9c := S9
  obtain ⟨hx, hb, hml, hown, hts⟩ := S9c
  refine lv_aload_n hx hb dL_law_400 rfl (lv_at hl 2 rfl) ?_
  refine lwArg (j := 1) (v := 1) hx hb hX hbl hS hLL (by omega) (lv_at hl 1 rfl) (lv_at hl 0 rfl) rfl rfl dL_law_401 dL_law_402 dL_law_404 dL_law_405 dL_law_406 ?_
  refine lwArg (j := 2) (v := 2) hx hb hX hbl hS hLL (by omega) (lv_at hl 1 rfl) (lv_at hl 0 rfl) rfl rfl dL_law_407 dL_law_408 dL_law_410 dL_law_411 dL_law_412 ?_
  refine lwBit hx hb dL_law_413 dL_law_416 dL_law_417 dL_law_420 ?_
  refine lv_aload_n hx hb dL_law_421 rfl (lv_at hl 4 rfl) ?_
  have hA := a_switchLoad h (xs (i + 1)) (bz (xs (i + 2)))
  refine lwH (r := r21) (As := [.ref (a 0), .int (xs (i + 1)), .int (bz (xs (i + 2))), .ref o]) (rest := []) hL S9 hK hE hC hM hO hS (c_L_switchLoad l G a hL.1 o hL.2.2.2.1 hst (xs (i + 1)) (bz (xs (i + 2))) S ⟨n.1, h.ok.1, h.2.1.1⟩ f hA.cd H.size) (vx_cwSW 4 hts gL_law_L_switchLoad rfl rfl rfl (by decide +kernel) ⟨Nat.le_of_ble_eq_true rfl, Nat.le_of_ble_eq_true rfl⟩) rfl hl.1 rfl (Nat.le_of_ble_eq_true rfl) dL_law_422 ⟨by omega, by omega⟩ (fun H locs hC hM hO hS => ?_)
  obtain ⟨e1, e2, e3⟩ := hA.law f
  generalize hR r21 (f_X3_switchLoad (xs (i + 1)) (bz (xs (i + 2))) S) f = u at hC hO e1 e2 e3 ⊢
  refine lv_istore (lv' := [(5, .int u.1), (4, .int (nI i)), (0, .ref b), (1, .ref (a 0)), (2, .ref (bb 0)), (3, .ref o)]) hx hb dL_law_425 hl (by decide) rfl (fun ls hl => ?_)
  refine lv_aload_n hx hb dL_law_427 rfl (lv_at hl 4 rfl) ?_
  refine lwArg (j := 1) (v := 1) hx hb hX hbl hS hLL (by omega) (lv_at hl 2 rfl) (lv_at hl 1 rfl) rfl rfl dL_law_428 dL_law_429 dL_law_431 dL_law_432 dL_law_433 ?_
  refine lwArg (j := 2) (v := 2) hx hb hX hbl hS hLL (by omega) (lv_at hl 2 rfl) (lv_at hl 1 rfl) rfl rfl dL_law_434 dL_law_435 dL_law_437 dL_law_438 dL_law_439 ?_
  refine lwBit hx hb dL_law_440 dL_law_443 dL_law_444 dL_law_447 ?_
  refine lwM (wf := MW G.2 bb n) (u0 := M) (As := [.int (xs (i + 1)), .int (bz (xs (i + 2)))]) (rest := []) hL S9 hK hC hM hO hS (c_X4_switchLoad l G bb hL.2.1 n h.ok (xs (i + 1)) (bz (xs (i + 2))) (bz_B _) M H.size) (cwV 2 hts gL_law_X4_switchLoad rfl rfl rfl (by decide +kernel) ⟨Nat.le_of_ble_eq_true rfl, Nat.le_of_ble_eq_true rfl⟩) (mrO hK hM) rfl hl.1 rfl (Nat.le_of_ble_eq_true rfl) dL_law_448 ⟨by omega, by omega⟩ (fun p1 H locs ep hC hM hO hS => ?_)
  subst ep
  exact lwT (n := n) (M := (f_X4_switchLoad n (xs (i + 1)) (bz (xs (i + 2))) M).2) (k2 := u.1) (b2 := (f_X4_switchLoad n (xs (i + 1)) (bz (xs (i + 2))) M).1) (c0 := c0 + 2) (s0 := s0 + 12) hL S9 hK e3.ok hC hM hO hS hl e1 e2 ⟨by omega, by omega⟩ hf dL_law_451 dL_law_453 dL_law_454 dL_law_457 dL_law_459 dL_law_464 dL_law_466 dL_law_469 dL_law_470 dL_law_471 dL_law_472 dL_law_474 dL_law_475 dL_law_476 dL_law_481 (by decide) (fun H1 locs1 ls1 hC hM hO hS hl => KK _ _ _ _ _ _ _ e3 hC hM hO hS hl)
set_option maxHeartbeats 4000000 in
set_option maxRecDepth 100000 in
theorem lc_setPower (I : lcIn p l s m args c H locs ls G a bb o b i L c0 s0 S n M f xs) (KK : lcK p l e s m args below meth c Q G a bb o b i c0 s0) : W p l e room_1 s m args below meth c H locs c0 s0 Q (F0 m 484 ls []) := by
  obtain ⟨hst, hL, S9, hK, hE, hX, hbl, hLL, hi, hf, h, hC, hM, hO, hS, hl⟩ := I
  have S9c := S9
  obtain ⟨hx, hb, hml, hown, hts⟩ := S9c
  refine lv_aload_n hx hb dL_law_484 rfl (lv_at hl 2 rfl) ?_
  refine lwArg (j := 1) (v := 1) hx hb hX hbl hS hLL (by omega) (lv_at hl 1 rfl) (lv_at hl 0 rfl) rfl rfl dL_law_485 dL_law_486 dL_law_488 dL_law_489 dL_law_490 ?_
  refine lwArg (j := 2) (v := 2) hx hb hX hbl hS hLL (by omega) (lv_at hl 1 rfl) (lv_at hl 0 rfl) rfl rfl dL_law_491 dL_law_492 dL_law_494 dL_law_495 dL_law_496 ?_
  refine lv_aload_n hx hb dL_law_497 rfl (lv_at hl 4 rfl) ?_
  have hA := a_setPower h (xs (i + 1)) (xs (i + 2))
  refine lwH (r := r2102) (As := [.ref (a 0), .int (xs (i + 1)), .int (xs (i + 2)), .ref o]) (rest := []) hL S9 hK hE hC hM hO hS (c_L_setPower l G a hL.1 o hL.2.2.2.1 hst (xs (i + 1)) (xs (i + 2)) S ⟨n.1, h.ok.1, h.2.1.1⟩ f hA.cd H.size) (vx_cwSW 4 hts gL_law_L_setPower rfl rfl rfl (by decide +kernel) ⟨Nat.le_of_ble_eq_true rfl, Nat.le_of_ble_eq_true rfl⟩) rfl hl.1 rfl (Nat.le_of_ble_eq_true rfl) dL_law_498 ⟨by omega, by omega⟩ (fun H locs hC hM hO hS => ?_)
  obtain ⟨e1, e2, e3⟩ := hA.law f
  generalize hR r2102 (f_X3_setPower (xs (i + 1)) (xs (i + 2)) S) f = u at hC hO e1 e2 e3 ⊢
  refine lv_istore (lv' := [(5, .int u.1), (4, .int (nI i)), (0, .ref b), (1, .ref (a 0)), (2, .ref (bb 0)), (3, .ref o)]) hx hb dL_law_501 hl (by decide) rfl (fun ls hl => ?_)
  refine lv_aload_n hx hb dL_law_503 rfl (lv_at hl 4 rfl) ?_
  refine lwArg (j := 1) (v := 1) hx hb hX hbl hS hLL (by omega) (lv_at hl 2 rfl) (lv_at hl 1 rfl) rfl rfl dL_law_504 dL_law_505 dL_law_507 dL_law_508 dL_law_509 ?_
  refine lwArg (j := 2) (v := 2) hx hb hX hbl hS hLL (by omega) (lv_at hl 2 rfl) (lv_at hl 1 rfl) rfl rfl dL_law_510 dL_law_511 dL_law_513 dL_law_514 dL_law_515 ?_
  refine lwM (wf := MW G.2 bb n) (u0 := M) (As := [.int (xs (i + 1)), .int (xs (i + 2))]) (rest := []) hL S9 hK hC hM hO hS (c_X4_setPower l G bb hL.2.1 n h.ok (xs (i + 1)) (xs (i + 2)) M H.size) (cwV 2 hts gL_law_X4_setPower rfl rfl rfl (by decide +kernel) ⟨Nat.le_of_ble_eq_true rfl, Nat.le_of_ble_eq_true rfl⟩) (mrO hK hM) rfl hl.1 rfl (Nat.le_of_ble_eq_true rfl) dL_law_516 ⟨by omega, by omega⟩ (fun p1 H locs ep hC hM hO hS => ?_)
  subst ep
  exact lwT (n := n) (M := (f_X4_setPower n (xs (i + 1)) (xs (i + 2)) M).2) (k2 := u.1) (b2 := (f_X4_setPower n (xs (i + 1)) (xs (i + 2)) M).1) (c0 := c0 + 2) (s0 := s0 + 12) hL S9 hK e3.ok hC hM hO hS hl e1 e2 ⟨by omega, by omega⟩ hf dL_law_519 dL_law_521 dL_law_522 dL_law_525 dL_law_527 dL_law_532 dL_law_534 dL_law_537 dL_law_538 dL_law_539 dL_law_540 dL_law_542 dL_law_543 dL_law_544 dL_law_549 (by decide) (fun H1 locs1 ls1 hC hM hO hS hl => KK _ _ _ _ _ _ _ e3 hC hM hO hS hl)
set_option maxHeartbeats 4000000 in
set_option maxRecDepth 100000 in
theorem lc_refuel (I : lcIn p l s m args c H locs ls G a bb o b i L c0 s0 S n M f xs) (KK : lcK p l e s m args below meth c Q G a bb o b i c0 s0) : W p l e room_1 s m args below meth c H locs c0 s0 Q (F0 m 552 ls []) := by
  obtain ⟨hst, hL, S9, hK, hE, hX, hbl, hLL, hi, hf, h, hC, hM, hO, hS, hl⟩ := I
  have S9c := S9
  obtain ⟨hx, hb, hml, hown, hts⟩ := S9c
  refine lv_aload_n hx hb dL_law_552 rfl (lv_at hl 2 rfl) ?_
  refine lwArg (j := 1) (v := 1) hx hb hX hbl hS hLL (by omega) (lv_at hl 1 rfl) (lv_at hl 0 rfl) rfl rfl dL_law_553 dL_law_554 dL_law_556 dL_law_557 dL_law_558 ?_
  refine lwArg (j := 2) (v := 2) hx hb hX hbl hS hLL (by omega) (lv_at hl 1 rfl) (lv_at hl 0 rfl) rfl rfl dL_law_559 dL_law_560 dL_law_562 dL_law_563 dL_law_564 ?_
  refine lv_aload_n hx hb dL_law_565 rfl (lv_at hl 4 rfl) ?_
  have hA := a_refuel h (xs (i + 1)) (xs (i + 2))
  refine lwH (r := r2102) (As := [.ref (a 0), .int (xs (i + 1)), .int (xs (i + 2)), .ref o]) (rest := []) hL S9 hK hE hC hM hO hS (c_L_refuel l G a hL.1 o hL.2.2.2.1 hst (xs (i + 1)) (xs (i + 2)) S ⟨n.2.2, h.ok.2.2, h.2.1.2.2.1⟩ f hA.cd H.size) (vx_cwSW 4 hts gL_law_L_refuel rfl rfl rfl (by decide +kernel) ⟨Nat.le_of_ble_eq_true rfl, Nat.le_of_ble_eq_true rfl⟩) rfl hl.1 rfl (Nat.le_of_ble_eq_true rfl) dL_law_566 ⟨by omega, by omega⟩ (fun H locs hC hM hO hS => ?_)
  obtain ⟨e1, e2, e3⟩ := hA.law f
  generalize hR r2102 (f_X3_refuel (xs (i + 1)) (xs (i + 2)) S) f = u at hC hO e1 e2 e3 ⊢
  refine lv_istore (lv' := [(5, .int u.1), (4, .int (nI i)), (0, .ref b), (1, .ref (a 0)), (2, .ref (bb 0)), (3, .ref o)]) hx hb dL_law_569 hl (by decide) rfl (fun ls hl => ?_)
  refine lv_aload_n hx hb dL_law_571 rfl (lv_at hl 4 rfl) ?_
  refine lwArg (j := 1) (v := 1) hx hb hX hbl hS hLL (by omega) (lv_at hl 2 rfl) (lv_at hl 1 rfl) rfl rfl dL_law_572 dL_law_573 dL_law_575 dL_law_576 dL_law_577 ?_
  refine lwArg (j := 2) (v := 2) hx hb hX hbl hS hLL (by omega) (lv_at hl 2 rfl) (lv_at hl 1 rfl) rfl rfl dL_law_578 dL_law_579 dL_law_581 dL_law_582 dL_law_583 ?_
  refine lwM (wf := MW G.2 bb n) (u0 := M) (As := [.int (xs (i + 1)), .int (xs (i + 2))]) (rest := []) hL S9 hK hC hM hO hS (c_X4_refuel l G bb hL.2.1 n h.ok (xs (i + 1)) (xs (i + 2)) M H.size) (cwV 2 hts gL_law_X4_refuel rfl rfl rfl (by decide +kernel) ⟨Nat.le_of_ble_eq_true rfl, Nat.le_of_ble_eq_true rfl⟩) (mrO hK hM) rfl hl.1 rfl (Nat.le_of_ble_eq_true rfl) dL_law_584 ⟨by omega, by omega⟩ (fun p1 H locs ep hC hM hO hS => ?_)
  subst ep
  exact lwT (n := n) (M := (f_X4_refuel n (xs (i + 1)) (xs (i + 2)) M).2) (k2 := u.1) (b2 := (f_X4_refuel n (xs (i + 1)) (xs (i + 2)) M).1) (c0 := c0 + 2) (s0 := s0 + 12) hL S9 hK e3.ok hC hM hO hS hl e1 e2 ⟨by omega, by omega⟩ hf dL_law_587 dL_law_589 dL_law_590 dL_law_593 dL_law_595 dL_law_600 dL_law_602 dL_law_605 dL_law_606 dL_law_607 dL_law_608 dL_law_610 dL_law_611 dL_law_612 dL_law_617 (by decide) (fun H1 locs1 ls1 hC hM hO hS hl => KK _ _ _ _ _ _ _ e3 hC hM hO hS hl)
set_option maxHeartbeats 4000000 in
set_option maxRecDepth 100000 in
theorem lc_setFailures (I : lcIn p l s m args c H locs ls G a bb o b i L c0 s0 S n M f xs) (KK : lcK p l e s m args below meth c Q G a bb o b i c0 s0) : W p l e room_1 s m args below meth c H locs c0 s0 Q (F0 m 620 ls []) := by
  obtain ⟨hst, hL, S9, hK, hE, hX, hbl, hLL, hi, hf, h, hC, hM, hO, hS, hl⟩ := I
  have S9c := S9
  obtain ⟨hx, hb, hml, hown, hts⟩ := S9c
  refine lv_aload_n hx hb dL_law_620 rfl (lv_at hl 2 rfl) ?_
  refine lwArg (j := 1) (v := 1) hx hb hX hbl hS hLL (by omega) (lv_at hl 1 rfl) (lv_at hl 0 rfl) rfl rfl dL_law_621 dL_law_622 dL_law_624 dL_law_625 dL_law_626 ?_
  refine lwArg (j := 2) (v := 2) hx hb hX hbl hS hLL (by omega) (lv_at hl 1 rfl) (lv_at hl 0 rfl) rfl rfl dL_law_627 dL_law_628 dL_law_630 dL_law_631 dL_law_632 ?_
  refine lv_aload_n hx hb dL_law_633 rfl (lv_at hl 4 rfl) ?_
  have hA := a_setFailures h (xs (i + 1)) (xs (i + 2))
  refine lwH (r := r2102) (As := [.ref (a 0), .int (xs (i + 1)), .int (xs (i + 2)), .ref o]) (rest := []) hL S9 hK hE hC hM hO hS (c_L_setFailures l G a hL.1 o hL.2.2.2.1 hst (xs (i + 1)) (xs (i + 2)) S ⟨n.2.2, h.ok.2.2, h.2.1.2.2.1⟩ f hA.cd H.size) (vx_cwSW 4 hts gL_law_L_setFailures rfl rfl rfl (by decide +kernel) ⟨Nat.le_of_ble_eq_true rfl, Nat.le_of_ble_eq_true rfl⟩) rfl hl.1 rfl (Nat.le_of_ble_eq_true rfl) dL_law_634 ⟨by omega, by omega⟩ (fun H locs hC hM hO hS => ?_)
  obtain ⟨e1, e2, e3⟩ := hA.law f
  generalize hR r2102 (f_X3_setFailures (xs (i + 1)) (xs (i + 2)) S) f = u at hC hO e1 e2 e3 ⊢
  refine lv_istore (lv' := [(5, .int u.1), (4, .int (nI i)), (0, .ref b), (1, .ref (a 0)), (2, .ref (bb 0)), (3, .ref o)]) hx hb dL_law_637 hl (by decide) rfl (fun ls hl => ?_)
  refine lv_aload_n hx hb dL_law_639 rfl (lv_at hl 4 rfl) ?_
  refine lwArg (j := 1) (v := 1) hx hb hX hbl hS hLL (by omega) (lv_at hl 2 rfl) (lv_at hl 1 rfl) rfl rfl dL_law_640 dL_law_641 dL_law_643 dL_law_644 dL_law_645 ?_
  refine lwArg (j := 2) (v := 2) hx hb hX hbl hS hLL (by omega) (lv_at hl 2 rfl) (lv_at hl 1 rfl) rfl rfl dL_law_646 dL_law_647 dL_law_649 dL_law_650 dL_law_651 ?_
  refine lwM (wf := MW G.2 bb n) (u0 := M) (As := [.int (xs (i + 1)), .int (xs (i + 2))]) (rest := []) hL S9 hK hC hM hO hS (c_X4_setFailures l G bb hL.2.1 n h.ok (xs (i + 1)) (xs (i + 2)) M H.size) (cwV 2 hts gL_law_X4_setFailures rfl rfl rfl (by decide +kernel) ⟨Nat.le_of_ble_eq_true rfl, Nat.le_of_ble_eq_true rfl⟩) (mrO hK hM) rfl hl.1 rfl (Nat.le_of_ble_eq_true rfl) dL_law_652 ⟨by omega, by omega⟩ (fun p1 H locs ep hC hM hO hS => ?_)
  subst ep
  exact lwT (n := n) (M := (f_X4_setFailures n (xs (i + 1)) (xs (i + 2)) M).2) (k2 := u.1) (b2 := (f_X4_setFailures n (xs (i + 1)) (xs (i + 2)) M).1) (c0 := c0 + 2) (s0 := s0 + 12) hL S9 hK e3.ok hC hM hO hS hl e1 e2 ⟨by omega, by omega⟩ hf dL_law_655 dL_law_657 dL_law_658 dL_law_661 dL_law_663 dL_law_668 dL_law_670 dL_law_673 dL_law_674 dL_law_675 dL_law_676 dL_law_678 dL_law_679 dL_law_680 dL_law_685 (by decide) (fun H1 locs1 ls1 hC hM hO hS hl => KK _ _ _ _ _ _ _ e3 hC hM hO hS hl)
set_option maxHeartbeats 4000000 in
set_option maxRecDepth 100000 in
theorem lc_setTests (I : lcIn p l s m args c H locs ls G a bb o b i L c0 s0 S n M f xs) (KK : lcK p l e s m args below meth c Q G a bb o b i c0 s0) : W p l e room_1 s m args below meth c H locs c0 s0 Q (F0 m 688 ls []) := by
  obtain ⟨hst, hL, S9, hK, hE, hX, hbl, hLL, hi, hf, h, hC, hM, hO, hS, hl⟩ := I
  have S9c := S9
  obtain ⟨hx, hb, hml, hown, hts⟩ := S9c
  refine lv_aload_n hx hb dL_law_688 rfl (lv_at hl 2 rfl) ?_
  refine lwArg (j := 1) (v := 1) hx hb hX hbl hS hLL (by omega) (lv_at hl 1 rfl) (lv_at hl 0 rfl) rfl rfl dL_law_689 dL_law_690 dL_law_692 dL_law_693 dL_law_694 ?_
  refine lwArg (j := 2) (v := 2) hx hb hX hbl hS hLL (by omega) (lv_at hl 1 rfl) (lv_at hl 0 rfl) rfl rfl dL_law_695 dL_law_696 dL_law_698 dL_law_699 dL_law_700 ?_
  refine lwArg (j := 3) (v := 3) hx hb hX hbl hS hLL (by omega) (lv_at hl 1 rfl) (lv_at hl 0 rfl) rfl rfl dL_law_701 dL_law_702 dL_law_704 dL_law_705 dL_law_706 ?_
  refine lv_aload_n hx hb dL_law_707 rfl (lv_at hl 4 rfl) ?_
  have hA := a_setTests h (xs (i + 1)) (xs (i + 2)) (xs (i + 3))
  refine lwH (r := r2102) (As := [.ref (a 0), .int (xs (i + 1)), .int (xs (i + 2)), .int (xs (i + 3)), .ref o]) (rest := []) hL S9 hK hE hC hM hO hS (c_L_setTests l G a hL.1 o hL.2.2.2.1 hst (xs (i + 1)) (xs (i + 2)) (xs (i + 3)) S ⟨n.2.2, h.ok.2.2, h.2.1.2.2.1⟩ f hA.cd H.size) (vx_cwSW 5 hts gL_law_L_setTests rfl rfl rfl (by decide +kernel) ⟨Nat.le_of_ble_eq_true rfl, Nat.le_of_ble_eq_true rfl⟩) rfl hl.1 rfl (Nat.le_of_ble_eq_true rfl) dL_law_708 ⟨by omega, by omega⟩ (fun H locs hC hM hO hS => ?_)
  obtain ⟨e1, e2, e3⟩ := hA.law f
  generalize hR r2102 (f_X3_setTests (xs (i + 1)) (xs (i + 2)) (xs (i + 3)) S) f = u at hC hO e1 e2 e3 ⊢
  refine lv_istore (lv' := [(5, .int u.1), (4, .int (nI i)), (0, .ref b), (1, .ref (a 0)), (2, .ref (bb 0)), (3, .ref o)]) hx hb dL_law_711 hl (by decide) rfl (fun ls hl => ?_)
  refine lv_aload_n hx hb dL_law_713 rfl (lv_at hl 4 rfl) ?_
  refine lwArg (j := 1) (v := 1) hx hb hX hbl hS hLL (by omega) (lv_at hl 2 rfl) (lv_at hl 1 rfl) rfl rfl dL_law_714 dL_law_715 dL_law_717 dL_law_718 dL_law_719 ?_
  refine lwArg (j := 2) (v := 2) hx hb hX hbl hS hLL (by omega) (lv_at hl 2 rfl) (lv_at hl 1 rfl) rfl rfl dL_law_720 dL_law_721 dL_law_723 dL_law_724 dL_law_725 ?_
  refine lwArg (j := 3) (v := 3) hx hb hX hbl hS hLL (by omega) (lv_at hl 2 rfl) (lv_at hl 1 rfl) rfl rfl dL_law_726 dL_law_727 dL_law_729 dL_law_730 dL_law_731 ?_
  refine lwM (wf := MW G.2 bb n) (u0 := M) (As := [.int (xs (i + 1)), .int (xs (i + 2)), .int (xs (i + 3))]) (rest := []) hL S9 hK hC hM hO hS (c_X4_setTests l G bb hL.2.1 n h.ok (xs (i + 1)) (xs (i + 2)) (xs (i + 3)) M H.size) (cwV 3 hts gL_law_X4_setTests rfl rfl rfl (by decide +kernel) ⟨Nat.le_of_ble_eq_true rfl, Nat.le_of_ble_eq_true rfl⟩) (mrO hK hM) rfl hl.1 rfl (Nat.le_of_ble_eq_true rfl) dL_law_732 ⟨by omega, by omega⟩ (fun p1 H locs ep hC hM hO hS => ?_)
  subst ep
  exact lwT (n := n) (M := (f_X4_setTests n (xs (i + 1)) (xs (i + 2)) (xs (i + 3)) M).2) (k2 := u.1) (b2 := (f_X4_setTests n (xs (i + 1)) (xs (i + 2)) (xs (i + 3)) M).1) (c0 := c0 + 2) (s0 := s0 + 12) hL S9 hK e3.ok hC hM hO hS hl e1 e2 ⟨by omega, by omega⟩ hf dL_law_735 dL_law_737 dL_law_738 dL_law_741 dL_law_743 dL_law_748 dL_law_750 dL_law_753 dL_law_754 dL_law_755 dL_law_756 dL_law_758 dL_law_759 dL_law_760 dL_law_765 (by decide) (fun H1 locs1 ls1 hC hM hO hS hl => KK _ _ _ _ _ _ _ e3 hC hM hO hS hl)
set_option maxHeartbeats 4000000 in
set_option maxRecDepth 100000 in
theorem lc_setTimes (I : lcIn p l s m args c H locs ls G a bb o b i L c0 s0 S n M f xs) (KK : lcK p l e s m args below meth c Q G a bb o b i c0 s0) : W p l e room_1 s m args below meth c H locs c0 s0 Q (F0 m 768 ls []) := by
  obtain ⟨hst, hL, S9, hK, hE, hX, hbl, hLL, hi, hf, h, hC, hM, hO, hS, hl⟩ := I
  have S9c := S9
  obtain ⟨hx, hb, hml, hown, hts⟩ := S9c
  refine lv_aload_n hx hb dL_law_768 rfl (lv_at hl 2 rfl) ?_
  refine lwArg (j := 1) (v := 1) hx hb hX hbl hS hLL (by omega) (lv_at hl 1 rfl) (lv_at hl 0 rfl) rfl rfl dL_law_769 dL_law_770 dL_law_772 dL_law_773 dL_law_774 ?_
  refine lwArg (j := 2) (v := 2) hx hb hX hbl hS hLL (by omega) (lv_at hl 1 rfl) (lv_at hl 0 rfl) rfl rfl dL_law_775 dL_law_776 dL_law_778 dL_law_779 dL_law_780 ?_
  refine lv_aload_n hx hb dL_law_781 rfl (lv_at hl 4 rfl) ?_
  have hA := a_setTimes h (xs (i + 1)) (xs (i + 2))
  refine lwH (r := r01) (As := [.ref (a 0), .int (xs (i + 1)), .int (xs (i + 2)), .ref o]) (rest := []) hL S9 hK hE hC hM hO hS (c_L_setTimes l G a hL.1 o hL.2.2.2.1 hst (xs (i + 1)) (xs (i + 2)) S f hA.cd H.size) (vx_cwSW 4 hts gL_law_L_setTimes rfl rfl rfl (by decide +kernel) ⟨Nat.le_of_ble_eq_true rfl, Nat.le_of_ble_eq_true rfl⟩) rfl hl.1 rfl (Nat.le_of_ble_eq_true rfl) dL_law_782 ⟨by omega, by omega⟩ (fun H locs hC hM hO hS => ?_)
  obtain ⟨e1, e2, e3⟩ := hA.law f
  generalize hR r01 (f_X3_setTimes (xs (i + 1)) (xs (i + 2)) S) f = u at hC hO e1 e2 e3 ⊢
  refine lv_istore (lv' := [(5, .int u.1), (4, .int (nI i)), (0, .ref b), (1, .ref (a 0)), (2, .ref (bb 0)), (3, .ref o)]) hx hb dL_law_785 hl (by decide) rfl (fun ls hl => ?_)
  refine lv_aload_n hx hb dL_law_787 rfl (lv_at hl 4 rfl) ?_
  refine lwArg (j := 1) (v := 1) hx hb hX hbl hS hLL (by omega) (lv_at hl 2 rfl) (lv_at hl 1 rfl) rfl rfl dL_law_788 dL_law_789 dL_law_791 dL_law_792 dL_law_793 ?_
  refine lwArg (j := 2) (v := 2) hx hb hX hbl hS hLL (by omega) (lv_at hl 2 rfl) (lv_at hl 1 rfl) rfl rfl dL_law_794 dL_law_795 dL_law_797 dL_law_798 dL_law_799 ?_
  refine lwM (wf := MW G.2 bb n) (u0 := M) (As := [.int (xs (i + 1)), .int (xs (i + 2))]) (rest := []) hL S9 hK hC hM hO hS (c_X4_setTimes l G bb hL.2.1 n h.ok (xs (i + 1)) (xs (i + 2)) M H.size) (cwV 2 hts gL_law_X4_setTimes rfl rfl rfl (by decide +kernel) ⟨Nat.le_of_ble_eq_true rfl, Nat.le_of_ble_eq_true rfl⟩) (mrO hK hM) rfl hl.1 rfl (Nat.le_of_ble_eq_true rfl) dL_law_800 ⟨by omega, by omega⟩ (fun p1 H locs ep hC hM hO hS => ?_)
  subst ep
  exact lwT (n := n) (M := (f_X4_setTimes n (xs (i + 1)) (xs (i + 2)) M).2) (k2 := u.1) (b2 := (f_X4_setTimes n (xs (i + 1)) (xs (i + 2)) M).1) (c0 := c0 + 2) (s0 := s0 + 12) hL S9 hK e3.ok hC hM hO hS hl e1 e2 ⟨by omega, by omega⟩ hf dL_law_803 dL_law_805 dL_law_806 dL_law_809 dL_law_811 dL_law_816 dL_law_818 dL_law_821 dL_law_822 dL_law_823 dL_law_824 dL_law_826 dL_law_827 dL_law_828 dL_law_833 (by decide) (fun H1 locs1 ls1 hC hM hO hS hl => KK _ _ _ _ _ _ _ e3 hC hM hO hS hl)
set_option maxHeartbeats 4000000 in
set_option maxRecDepth 100000 in
theorem lc_setMains (I : lcIn p l s m args c H locs ls G a bb o b i L c0 s0 S n M f xs) (KK : lcK p l e s m args below meth c Q G a bb o b i c0 s0) : W p l e room_1 s m args below meth c H locs c0 s0 Q (F0 m 836 ls []) := by
  obtain ⟨hst, hL, S9, hK, hE, hX, hbl, hLL, hi, hf, h, hC, hM, hO, hS, hl⟩ := I
  have S9c := S9
  obtain ⟨hx, hb, hml, hown, hts⟩ := S9c
  refine lv_aload_n hx hb dL_law_836 rfl (lv_at hl 2 rfl) ?_
  refine lwArg (j := 1) (v := 1) hx hb hX hbl hS hLL (by omega) (lv_at hl 1 rfl) (lv_at hl 0 rfl) rfl rfl dL_law_837 dL_law_838 dL_law_840 dL_law_841 dL_law_842 ?_
  refine lwBit hx hb dL_law_843 dL_law_846 dL_law_847 dL_law_850 ?_
  refine lwCz (As := [.int (bz (xs (i + 1)))]) (rest := []) hL S9 hK hC hM hO hS (c_X3_setMains l G a hL.1 (bz (xs (i + 1))) (bz_B _) S (by rw [eS 6 2 (by omega) rfl h]; exact h.2.2.2.2.2.2.2.1) H.size) (cwV 1 hts gL_law_X3_setMains rfl rfl rfl (by decide +kernel) ⟨Nat.le_of_ble_eq_true rfl, Nat.le_of_ble_eq_true rfl⟩) rfl hl.1 rfl (Nat.le_of_ble_eq_true rfl) dL_law_851 ⟨by omega, by omega⟩ (fun p1 H locs ep hC hM hO hS => ?_)
  subst ep
  refine lv_aload_n hx hb dL_law_854 rfl (lv_at hl 3 rfl) ?_
  refine lwArg (j := 1) (v := 1) hx hb hX hbl hS hLL (by omega) (lv_at hl 1 rfl) (lv_at hl 0 rfl) rfl rfl dL_law_855 dL_law_856 dL_law_858 dL_law_859 dL_law_860 ?_
  refine lwBit hx hb dL_law_861 dL_law_864 dL_law_865 dL_law_868 ?_
  refine lwMz (As := [.int (bz (xs (i + 1)))]) (rest := [.int (f_X3_setMains (bz (xs (i + 1))) S).1]) hL S9 hK hC hM hO hS (c_X4_setMains l G bb hL.2.1 n h.ok (bz (xs (i + 1))) (bz_B _) M h.2.2.2.2.2.2.2.1 H.size) (cwV 1 hts gL_law_X4_setMains rfl rfl rfl (by decide +kernel) ⟨Nat.le_of_ble_eq_true rfl, Nat.le_of_ble_eq_true rfl⟩) rfl hl.1 rfl (Nat.le_of_ble_eq_true rfl) dL_law_869 ⟨by omega, by omega⟩ (fun p1 H locs ep hC hM hO hS => ?_)
  subst ep
  obtain ⟨hA1, hA2⟩ := b_setMains (n := n) h (bz_B (xs (i + 1)))
  refine lv_icmp_eq (tgt := 1653) hx hb dL_law_872 (by decide) (fun _ => ?_) (fun z => absurd hA1 z)
  refine W.widen (k := c0 + 2) (n := s0 + 12) (by omega) (by omega) ?_
  exact KK _ _ _ _ _ _ _ hA2 hC hM hO hS hl
set_option maxHeartbeats 4000000 in
set_option maxRecDepth 100000 in
theorem lc_pass (I : lcIn p l s m args c H locs ls G a bb o b i L c0 s0 S n M f xs) (KK : lcK p l e s m args below meth c Q G a bb o b i c0 s0) : W p l e room_1 s m args below meth c H locs c0 s0 Q (F0 m 877 ls []) := by
  obtain ⟨hst, hL, S9, hK, hE, hX, hbl, hLL, hi, hf, h, hC, hM, hO, hS, hl⟩ := I
  have S9c := S9
  obtain ⟨hx, hb, hml, hown, hts⟩ := S9c
  refine lv_aload_n hx hb dL_law_877 rfl (lv_at hl 2 rfl) ?_
  refine lwArg (j := 1) (v := 1) hx hb hX hbl hS hLL (by omega) (lv_at hl 1 rfl) (lv_at hl 0 rfl) rfl rfl dL_law_878 dL_law_879 dL_law_881 dL_law_882 dL_law_883 ?_
  refine lv_aload_n hx hb dL_law_884 rfl (lv_at hl 4 rfl) ?_
  have hA := a_pass h (xs (i + 1))
  refine lwH (r := r01) (As := [.ref (a 0), .int (xs (i + 1)), .ref o]) (rest := []) hL S9 hK hE hC hM hO hS (c_L_pass l G a hL.1 o hL.2.2.2.1 hst (xs (i + 1)) S f hA.cd H.size) (vx_cwSW 3 hts gL_law_L_pass rfl rfl rfl (by decide +kernel) ⟨Nat.le_of_ble_eq_true rfl, Nat.le_of_ble_eq_true rfl⟩) rfl hl.1 rfl (Nat.le_of_ble_eq_true rfl) dL_law_885 ⟨by omega, by omega⟩ (fun H locs hC hM hO hS => ?_)
  obtain ⟨e1, e2, e3⟩ := hA.law f
  generalize hR r01 (f_X3_pass (xs (i + 1)) S) f = u at hC hO e1 e2 e3 ⊢
  refine lv_istore (lv' := [(5, .int u.1), (4, .int (nI i)), (0, .ref b), (1, .ref (a 0)), (2, .ref (bb 0)), (3, .ref o)]) hx hb dL_law_888 hl (by decide) rfl (fun ls hl => ?_)
  refine lv_aload_n hx hb dL_law_890 rfl (lv_at hl 4 rfl) ?_
  refine lwArg (j := 1) (v := 1) hx hb hX hbl hS hLL (by omega) (lv_at hl 2 rfl) (lv_at hl 1 rfl) rfl rfl dL_law_891 dL_law_892 dL_law_894 dL_law_895 dL_law_896 ?_
  refine lwM (wf := MW G.2 bb n) (u0 := M) (As := [.int (xs (i + 1))]) (rest := []) hL S9 hK hC hM hO hS (c_X4_pass l G bb hL.2.1 n h.ok (xs (i + 1)) M (pass_ok h ((xs (i + 1)))) H.size) (cwV 1 hts gL_law_X4_pass rfl rfl rfl (by decide +kernel) ⟨Nat.le_of_ble_eq_true rfl, Nat.le_of_ble_eq_true rfl⟩) (mrO hK hM) rfl hl.1 rfl (Nat.le_of_ble_eq_true rfl) dL_law_897 ⟨by omega, by omega⟩ (fun p1 H locs ep hC hM hO hS => ?_)
  subst ep
  exact lwT (n := n) (M := (f_X4_pass n (xs (i + 1)) M).2) (k2 := u.1) (b2 := (f_X4_pass n (xs (i + 1)) M).1) (c0 := c0 + 2) (s0 := s0 + 12) hL S9 hK e3.ok hC hM hO hS hl e1 e2 ⟨by omega, by omega⟩ hf dL_law_900 dL_law_902 dL_law_903 dL_law_906 dL_law_908 dL_law_913 dL_law_915 dL_law_918 dL_law_919 dL_law_920 dL_law_921 dL_law_923 dL_law_924 dL_law_925 dL_law_930 (by decide) (fun H1 locs1 ls1 hC hM hO hS hl => KK _ _ _ _ _ _ _ e3 hC hM hO hS hl)
set_option maxHeartbeats 4000000 in
set_option maxRecDepth 100000 in
theorem lc_time (I : lcIn p l s m args c H locs ls G a bb o b i L c0 s0 S n M f xs) (KK : lcK p l e s m args below meth c Q G a bb o b i c0 s0) : W p l e room_1 s m args below meth c H locs c0 s0 Q (F0 m 933 ls []) := by
  obtain ⟨hst, hL, S9, hK, hE, hX, hbl, hLL, hi, hf, h, hC, hM, hO, hS, hl⟩ := I
  have S9c := S9
  obtain ⟨hx, hb, hml, hown, hts⟩ := S9c
  refine lv_aload_n hx hb dL_law_933 rfl (lv_at hl 2 rfl) ?_
  refine lwC (As := []) (rest := []) hL S9 hK hC hM hO hS (c_X3_time l G a hL.1 S H.size) (cwV 0 hts gL_law_X3_time rfl rfl rfl (by decide +kernel) ⟨Nat.le_of_ble_eq_true rfl, Nat.le_of_ble_eq_true rfl⟩) rfl hl.1 rfl (Nat.le_of_ble_eq_true rfl) dL_law_934 ⟨by omega, by omega⟩ (fun p1 H locs ep hC hM hO hS => ?_)
  subst ep
  refine lv_aload_n hx hb dL_law_937 rfl (lv_at hl 3 rfl) ?_
  refine lwM (wf := MW G.2 bb n) (u0 := M) (As := []) (rest := [.int (f_X3_time S).1]) hL S9 hK hC hM hO hS (c_X4_time l G bb hL.2.1 n h.ok M H.size) (cwV 0 hts gL_law_X4_time rfl rfl rfl (by decide +kernel) ⟨Nat.le_of_ble_eq_true rfl, Nat.le_of_ble_eq_true rfl⟩) (mrO hK hM) rfl hl.1 rfl (Nat.le_of_ble_eq_true rfl) dL_law_938 ⟨by omega, by omega⟩ (fun p1 H locs ep hC hM hO hS => ?_)
  subst ep
  obtain ⟨hA1, hA2⟩ := b_time (n := n) h
  refine lv_icmp_eq (tgt := 1653) hx hb dL_law_941 (by decide) (fun _ => ?_) (fun z => absurd hA1 z)
  refine W.widen (k := c0 + 2) (n := s0 + 12) (by omega) (by omega) ?_
  exact KK _ _ _ _ _ _ _ hA2 hC hM hO hS hl
set_option maxHeartbeats 4000000 in
set_option maxRecDepth 100000 in
theorem lc_outage (I : lcIn p l s m args c H locs ls G a bb o b i L c0 s0 S n M f xs) (KK : lcK p l e s m args below meth c Q G a bb o b i c0 s0) : W p l e room_1 s m args below meth c H locs c0 s0 Q (F0 m 946 ls []) := by
  obtain ⟨hst, hL, S9, hK, hE, hX, hbl, hLL, hi, hf, h, hC, hM, hO, hS, hl⟩ := I
  have S9c := S9
  obtain ⟨hx, hb, hml, hown, hts⟩ := S9c
  refine lv_aload_n hx hb dL_law_946 rfl (lv_at hl 2 rfl) ?_
  refine lwC (As := []) (rest := []) hL S9 hK hC hM hO hS (c_X3_outage l G a hL.1 S H.size) (cwV 0 hts gL_law_X3_outage rfl rfl rfl (by decide +kernel) ⟨Nat.le_of_ble_eq_true rfl, Nat.le_of_ble_eq_true rfl⟩) rfl hl.1 rfl (Nat.le_of_ble_eq_true rfl) dL_law_947 ⟨by omega, by omega⟩ (fun p1 H locs ep hC hM hO hS => ?_)
  subst ep
  refine lv_aload_n hx hb dL_law_950 rfl (lv_at hl 3 rfl) ?_
  refine lwM (wf := MW G.2 bb n) (u0 := M) (As := []) (rest := [.int (f_X3_outage S).1]) hL S9 hK hC hM hO hS (c_X4_outage l G bb hL.2.1 n h.ok M H.size) (cwV 0 hts gL_law_X4_outage rfl rfl rfl (by decide +kernel) ⟨Nat.le_of_ble_eq_true rfl, Nat.le_of_ble_eq_true rfl⟩) (mrO hK hM) rfl hl.1 rfl (Nat.le_of_ble_eq_true rfl) dL_law_951 ⟨by omega, by omega⟩ (fun p1 H locs ep hC hM hO hS => ?_)
  subst ep
  obtain ⟨hA1, hA2⟩ := b_outage (n := n) h
  refine lv_icmp_eq (tgt := 1653) hx hb dL_law_954 (by decide) (fun _ => ?_) (fun z => absurd hA1 z)
  refine W.widen (k := c0 + 2) (n := s0 + 12) (by omega) (by omega) ?_
  exact KK _ _ _ _ _ _ _ hA2 hC hM hO hS hl
set_option maxHeartbeats 4000000 in
set_option maxRecDepth 100000 in
theorem lc_stateOf (I : lcIn p l s m args c H locs ls G a bb o b i L c0 s0 S n M f xs) (KK : lcK p l e s m args below meth c Q G a bb o b i c0 s0) : W p l e room_1 s m args below meth c H locs c0 s0 Q (F0 m 959 ls []) := by
  obtain ⟨hst, hL, S9, hK, hE, hX, hbl, hLL, hi, hf, h, hC, hM, hO, hS, hl⟩ := I
  have S9c := S9
  obtain ⟨hx, hb, hml, hown, hts⟩ := S9c
  refine lv_aload_n hx hb dL_law_959 rfl (lv_at hl 2 rfl) ?_
  refine lwArg (j := 1) (v := 1) hx hb hX hbl hS hLL (by omega) (lv_at hl 1 rfl) (lv_at hl 0 rfl) rfl rfl dL_law_960 dL_law_961 dL_law_963 dL_law_964 dL_law_965 ?_
  refine lv_aload_n hx hb dL_law_966 rfl (lv_at hl 4 rfl) ?_
  have hA := a_stateOf h (xs (i + 1))
  refine lwH (r := r21) (As := [.ref (a 0), .int (xs (i + 1)), .ref o]) (rest := []) hL S9 hK hE hC hM hO hS (c_L_stateOf l G a hL.1 o hL.2.2.2.1 hst (xs (i + 1)) S ⟨n.1, h.ok.1, h.2.1.1⟩ f hA.cd H.size) (vx_cwSW 3 hts gL_law_L_stateOf rfl rfl rfl (by decide +kernel) ⟨Nat.le_of_ble_eq_true rfl, Nat.le_of_ble_eq_true rfl⟩) rfl hl.1 rfl (Nat.le_of_ble_eq_true rfl) dL_law_967 ⟨by omega, by omega⟩ (fun H locs hC hM hO hS => ?_)
  obtain ⟨e1, e2, e3⟩ := hA.law f
  generalize hR r21 (f_X3_stateOf (xs (i + 1)) S) f = u at hC hO e1 e2 e3 ⊢
  refine lv_istore (lv' := [(5, .int u.1), (4, .int (nI i)), (0, .ref b), (1, .ref (a 0)), (2, .ref (bb 0)), (3, .ref o)]) hx hb dL_law_970 hl (by decide) rfl (fun ls hl => ?_)
  refine lv_aload_n hx hb dL_law_972 rfl (lv_at hl 4 rfl) ?_
  refine lwArg (j := 1) (v := 1) hx hb hX hbl hS hLL (by omega) (lv_at hl 2 rfl) (lv_at hl 1 rfl) rfl rfl dL_law_973 dL_law_974 dL_law_976 dL_law_977 dL_law_978 ?_
  refine lwM (wf := MW G.2 bb n) (u0 := M) (As := [.int (xs (i + 1))]) (rest := []) hL S9 hK hC hM hO hS (c_X4_stateOf l G bb hL.2.1 n h.ok (xs (i + 1)) M H.size) (cwV 1 hts gL_law_X4_stateOf rfl rfl rfl (by decide +kernel) ⟨Nat.le_of_ble_eq_true rfl, Nat.le_of_ble_eq_true rfl⟩) (mrO hK hM) rfl hl.1 rfl (Nat.le_of_ble_eq_true rfl) dL_law_979 ⟨by omega, by omega⟩ (fun p1 H locs ep hC hM hO hS => ?_)
  subst ep
  exact lwT (n := n) (M := (f_X4_stateOf n (xs (i + 1)) M).2) (k2 := u.1) (b2 := (f_X4_stateOf n (xs (i + 1)) M).1) (c0 := c0 + 2) (s0 := s0 + 12) hL S9 hK e3.ok hC hM hO hS hl e1 e2 ⟨by omega, by omega⟩ hf dL_law_982 dL_law_984 dL_law_985 dL_law_988 dL_law_990 dL_law_995 dL_law_997 dL_law_1000 dL_law_1001 dL_law_1002 dL_law_1003 dL_law_1005 dL_law_1006 dL_law_1007 dL_law_1012 (by decide) (fun H1 locs1 ls1 hC hM hO hS hl => KK _ _ _ _ _ _ _ e3 hC hM hO hS hl)
set_option maxHeartbeats 4000000 in
set_option maxRecDepth 100000 in
theorem lc_demand (I : lcIn p l s m args c H locs ls G a bb o b i L c0 s0 S n M f xs) (KK : lcK p l e s m args below meth c Q G a bb o b i c0 s0) : W p l e room_1 s m args below meth c H locs c0 s0 Q (F0 m 1015 ls []) := by
  obtain ⟨hst, hL, S9, hK, hE, hX, hbl, hLL, hi, hf, h, hC, hM, hO, hS, hl⟩ := I
  have S9c := S9
  obtain ⟨hx, hb, hml, hown, hts⟩ := S9c
  refine lv_aload_n hx hb dL_law_1015 rfl (lv_at hl 2 rfl) ?_
  refine lwC (As := []) (rest := []) hL S9 hK hC hM hO hS (c_X3_demand l G a hL.1 S H.size) (cwV 0 hts gL_law_X3_demand rfl rfl rfl (by decide +kernel) ⟨Nat.le_of_ble_eq_true rfl, Nat.le_of_ble_eq_true rfl⟩) rfl hl.1 rfl (Nat.le_of_ble_eq_true rfl) dL_law_1016 ⟨by omega, by omega⟩ (fun p1 H locs ep hC hM hO hS => ?_)
  subst ep
  refine lv_aload_n hx hb dL_law_1019 rfl (lv_at hl 3 rfl) ?_
  refine lwM (wf := MW G.2 bb n) (u0 := M) (As := []) (rest := [.int (f_X3_demand S).1]) hL S9 hK hC hM hO hS (c_X4_demand l G bb hL.2.1 n h.ok M H.size) (cwV 0 hts gL_law_X4_demand rfl rfl rfl (by decide +kernel) ⟨Nat.le_of_ble_eq_true rfl, Nat.le_of_ble_eq_true rfl⟩) (mrO hK hM) rfl hl.1 rfl (Nat.le_of_ble_eq_true rfl) dL_law_1020 ⟨by omega, by omega⟩ (fun p1 H locs ep hC hM hO hS => ?_)
  subst ep
  obtain ⟨hA1, hA2⟩ := b_demand (n := n) h
  refine lv_icmp_eq (tgt := 1653) hx hb dL_law_1023 (by decide) (fun _ => ?_) (fun z => absurd hA1 z)
  refine W.widen (k := c0 + 2) (n := s0 + 12) (by omega) (by omega) ?_
  exact KK _ _ _ _ _ _ _ hA2 hC hM hO hS hl
set_option maxHeartbeats 4000000 in
set_option maxRecDepth 100000 in
theorem lc_shedOrder (I : lcIn p l s m args c H locs ls G a bb o b i L c0 s0 S n M f xs) (KK : lcK p l e s m args below meth c Q G a bb o b i c0 s0) : W p l e room_1 s m args below meth c H locs c0 s0 Q (F0 m 1028 ls []) := by
  obtain ⟨hst, hL, S9, hK, hE, hX, hbl, hLL, hi, hf, h, hC, hM, hO, hS, hl⟩ := I
  have S9c := S9
  obtain ⟨hx, hb, hml, hown, hts⟩ := S9c
  refine lv_aload_n hx hb dL_law_1028 rfl (lv_at hl 2 rfl) ?_
  refine lwArg (j := 1) (v := 1) hx hb hX hbl hS hLL (by omega) (lv_at hl 1 rfl) (lv_at hl 0 rfl) rfl rfl dL_law_1029 dL_law_1030 dL_law_1032 dL_law_1033 dL_law_1034 ?_
  refine lv_aload_n hx hb dL_law_1035 rfl (lv_at hl 4 rfl) ?_
  have hA := a_shedOrder h (xs (i + 1))
  refine lwH (r := r21) (As := [.ref (a 0), .int (xs (i + 1)), .ref o]) (rest := []) hL S9 hK hE hC hM hO hS (c_L_shedOrder l G a hL.1 o hL.2.2.2.1 hst (xs (i + 1)) S f hA.cd H.size) (vx_cwSW 3 hts gL_law_L_shedOrder rfl rfl rfl (by decide +kernel) ⟨Nat.le_of_ble_eq_true rfl, Nat.le_of_ble_eq_true rfl⟩) rfl hl.1 rfl (Nat.le_of_ble_eq_true rfl) dL_law_1036 ⟨by omega, by omega⟩ (fun H locs hC hM hO hS => ?_)
  obtain ⟨e1, e2, e3⟩ := hA.law f
  generalize hR r21 (f_X3_shedOrder (xs (i + 1)) S) f = u at hC hO e1 e2 e3 ⊢
  refine lv_istore (lv' := [(5, .int u.1), (4, .int (nI i)), (0, .ref b), (1, .ref (a 0)), (2, .ref (bb 0)), (3, .ref o)]) hx hb dL_law_1039 hl (by decide) rfl (fun ls hl => ?_)
  refine lv_aload_n hx hb dL_law_1041 rfl (lv_at hl 4 rfl) ?_
  refine lwArg (j := 1) (v := 1) hx hb hX hbl hS hLL (by omega) (lv_at hl 2 rfl) (lv_at hl 1 rfl) rfl rfl dL_law_1042 dL_law_1043 dL_law_1045 dL_law_1046 dL_law_1047 ?_
  refine lwM (wf := MW G.2 bb n) (u0 := M) (As := [.int (xs (i + 1))]) (rest := []) hL S9 hK hC hM hO hS (c_X4_shedOrder l G bb hL.2.1 n h.ok (xs (i + 1)) M H.size) (cwV 1 hts gL_law_X4_shedOrder rfl rfl rfl (by decide +kernel) ⟨Nat.le_of_ble_eq_true rfl, Nat.le_of_ble_eq_true rfl⟩) (mrO hK hM) rfl hl.1 rfl (Nat.le_of_ble_eq_true rfl) dL_law_1048 ⟨by omega, by omega⟩ (fun p1 H locs ep hC hM hO hS => ?_)
  subst ep
  exact lwT (n := n) (M := (f_X4_shedOrder n (xs (i + 1)) M).2) (k2 := u.1) (b2 := (f_X4_shedOrder n (xs (i + 1)) M).1) (c0 := c0 + 2) (s0 := s0 + 12) hL S9 hK e3.ok hC hM hO hS hl e1 e2 ⟨by omega, by omega⟩ hf dL_law_1051 dL_law_1053 dL_law_1054 dL_law_1057 dL_law_1059 dL_law_1064 dL_law_1066 dL_law_1069 dL_law_1070 dL_law_1071 dL_law_1072 dL_law_1074 dL_law_1075 dL_law_1076 dL_law_1081 (by decide) (fun H1 locs1 ls1 hC hM hO hS hl => KK _ _ _ _ _ _ _ e3 hC hM hO hS hl)
set_option maxHeartbeats 4000000 in
set_option maxRecDepth 100000 in
theorem lc_returnOrder (I : lcIn p l s m args c H locs ls G a bb o b i L c0 s0 S n M f xs) (KK : lcK p l e s m args below meth c Q G a bb o b i c0 s0) : W p l e room_1 s m args below meth c H locs c0 s0 Q (F0 m 1084 ls []) := by
  obtain ⟨hst, hL, S9, hK, hE, hX, hbl, hLL, hi, hf, h, hC, hM, hO, hS, hl⟩ := I
  have S9c := S9
  obtain ⟨hx, hb, hml, hown, hts⟩ := S9c
  refine lv_aload_n hx hb dL_law_1084 rfl (lv_at hl 2 rfl) ?_
  refine lwArg (j := 1) (v := 1) hx hb hX hbl hS hLL (by omega) (lv_at hl 1 rfl) (lv_at hl 0 rfl) rfl rfl dL_law_1085 dL_law_1086 dL_law_1088 dL_law_1089 dL_law_1090 ?_
  refine lv_aload_n hx hb dL_law_1091 rfl (lv_at hl 4 rfl) ?_
  have hA := a_returnOrder h (xs (i + 1))
  refine lwH (r := r21) (As := [.ref (a 0), .int (xs (i + 1)), .ref o]) (rest := []) hL S9 hK hE hC hM hO hS (c_L_returnOrder l G a hL.1 o hL.2.2.2.1 hst (xs (i + 1)) S f hA.cd H.size) (vx_cwSW 3 hts gL_law_L_returnOrder rfl rfl rfl (by decide +kernel) ⟨Nat.le_of_ble_eq_true rfl, Nat.le_of_ble_eq_true rfl⟩) rfl hl.1 rfl (Nat.le_of_ble_eq_true rfl) dL_law_1092 ⟨by omega, by omega⟩ (fun H locs hC hM hO hS => ?_)
  obtain ⟨e1, e2, e3⟩ := hA.law f
  generalize hR r21 (f_X3_returnOrder (xs (i + 1)) S) f = u at hC hO e1 e2 e3 ⊢
  refine lv_istore (lv' := [(5, .int u.1), (4, .int (nI i)), (0, .ref b), (1, .ref (a 0)), (2, .ref (bb 0)), (3, .ref o)]) hx hb dL_law_1095 hl (by decide) rfl (fun ls hl => ?_)
  refine lv_aload_n hx hb dL_law_1097 rfl (lv_at hl 4 rfl) ?_
  refine lwArg (j := 1) (v := 1) hx hb hX hbl hS hLL (by omega) (lv_at hl 2 rfl) (lv_at hl 1 rfl) rfl rfl dL_law_1098 dL_law_1099 dL_law_1101 dL_law_1102 dL_law_1103 ?_
  refine lwM (wf := MW G.2 bb n) (u0 := M) (As := [.int (xs (i + 1))]) (rest := []) hL S9 hK hC hM hO hS (c_X4_returnOrder l G bb hL.2.1 n h.ok (xs (i + 1)) M H.size) (cwV 1 hts gL_law_X4_returnOrder rfl rfl rfl (by decide +kernel) ⟨Nat.le_of_ble_eq_true rfl, Nat.le_of_ble_eq_true rfl⟩) (mrO hK hM) rfl hl.1 rfl (Nat.le_of_ble_eq_true rfl) dL_law_1104 ⟨by omega, by omega⟩ (fun p1 H locs ep hC hM hO hS => ?_)
  subst ep
  exact lwT (n := n) (M := (f_X4_returnOrder n (xs (i + 1)) M).2) (k2 := u.1) (b2 := (f_X4_returnOrder n (xs (i + 1)) M).1) (c0 := c0 + 2) (s0 := s0 + 12) hL S9 hK e3.ok hC hM hO hS hl e1 e2 ⟨by omega, by omega⟩ hf dL_law_1107 dL_law_1109 dL_law_1110 dL_law_1113 dL_law_1115 dL_law_1120 dL_law_1122 dL_law_1125 dL_law_1126 dL_law_1127 dL_law_1128 dL_law_1130 dL_law_1131 dL_law_1132 dL_law_1137 (by decide) (fun H1 locs1 ls1 hC hM hO hS hl => KK _ _ _ _ _ _ _ e3 hC hM hO hS hl)
set_option maxHeartbeats 4000000 in
set_option maxRecDepth 100000 in
theorem lc_chargeOf (I : lcIn p l s m args c H locs ls G a bb o b i L c0 s0 S n M f xs) (KK : lcK p l e s m args below meth c Q G a bb o b i c0 s0) : W p l e room_1 s m args below meth c H locs c0 s0 Q (F0 m 1140 ls []) := by
  obtain ⟨hst, hL, S9, hK, hE, hX, hbl, hLL, hi, hf, h, hC, hM, hO, hS, hl⟩ := I
  have S9c := S9
  obtain ⟨hx, hb, hml, hown, hts⟩ := S9c
  refine lv_aload_n hx hb dL_law_1140 rfl (lv_at hl 2 rfl) ?_
  refine lwArg (j := 1) (v := 1) hx hb hX hbl hS hLL (by omega) (lv_at hl 1 rfl) (lv_at hl 0 rfl) rfl rfl dL_law_1141 dL_law_1142 dL_law_1144 dL_law_1145 dL_law_1146 ?_
  refine lv_aload_n hx hb dL_law_1147 rfl (lv_at hl 4 rfl) ?_
  have hA := a_chargeOf h (xs (i + 1))
  refine lwH (r := r21) (As := [.ref (a 0), .int (xs (i + 1)), .ref o]) (rest := []) hL S9 hK hE hC hM hO hS (c_L_chargeOf l G a hL.1 o hL.2.2.2.1 hst (xs (i + 1)) S ⟨n.2.1, h.ok.2.1, h.2.1.2.1⟩ f hA.cd H.size) (vx_cwSW 3 hts gL_law_L_chargeOf rfl rfl rfl (by decide +kernel) ⟨Nat.le_of_ble_eq_true rfl, Nat.le_of_ble_eq_true rfl⟩) rfl hl.1 rfl (Nat.le_of_ble_eq_true rfl) dL_law_1148 ⟨by omega, by omega⟩ (fun H locs hC hM hO hS => ?_)
  obtain ⟨e1, e2, e3⟩ := hA.law f
  generalize hR r21 (f_X3_chargeOf (xs (i + 1)) S) f = u at hC hO e1 e2 e3 ⊢
  refine lv_istore (lv' := [(5, .int u.1), (4, .int (nI i)), (0, .ref b), (1, .ref (a 0)), (2, .ref (bb 0)), (3, .ref o)]) hx hb dL_law_1151 hl (by decide) rfl (fun ls hl => ?_)
  refine lv_aload_n hx hb dL_law_1153 rfl (lv_at hl 4 rfl) ?_
  refine lwArg (j := 1) (v := 1) hx hb hX hbl hS hLL (by omega) (lv_at hl 2 rfl) (lv_at hl 1 rfl) rfl rfl dL_law_1154 dL_law_1155 dL_law_1157 dL_law_1158 dL_law_1159 ?_
  refine lwM (wf := MW G.2 bb n) (u0 := M) (As := [.int (xs (i + 1))]) (rest := []) hL S9 hK hC hM hO hS (c_X4_chargeOf l G bb hL.2.1 n h.ok (xs (i + 1)) M H.size) (cwV 1 hts gL_law_X4_chargeOf rfl rfl rfl (by decide +kernel) ⟨Nat.le_of_ble_eq_true rfl, Nat.le_of_ble_eq_true rfl⟩) (mrO hK hM) rfl hl.1 rfl (Nat.le_of_ble_eq_true rfl) dL_law_1160 ⟨by omega, by omega⟩ (fun p1 H locs ep hC hM hO hS => ?_)
  subst ep
  exact lwT (n := n) (M := (f_X4_chargeOf n (xs (i + 1)) M).2) (k2 := u.1) (b2 := (f_X4_chargeOf n (xs (i + 1)) M).1) (c0 := c0 + 2) (s0 := s0 + 12) hL S9 hK e3.ok hC hM hO hS hl e1 e2 ⟨by omega, by omega⟩ hf dL_law_1163 dL_law_1165 dL_law_1166 dL_law_1169 dL_law_1171 dL_law_1176 dL_law_1178 dL_law_1181 dL_law_1182 dL_law_1183 dL_law_1184 dL_law_1186 dL_law_1187 dL_law_1188 dL_law_1193 (by decide) (fun H1 locs1 ls1 hC hM hO hS hl => KK _ _ _ _ _ _ _ e3 hC hM hO hS hl)
set_option maxHeartbeats 4000000 in
set_option maxRecDepth 100000 in
theorem lc_capacityOf (I : lcIn p l s m args c H locs ls G a bb o b i L c0 s0 S n M f xs) (KK : lcK p l e s m args below meth c Q G a bb o b i c0 s0) : W p l e room_1 s m args below meth c H locs c0 s0 Q (F0 m 1196 ls []) := by
  obtain ⟨hst, hL, S9, hK, hE, hX, hbl, hLL, hi, hf, h, hC, hM, hO, hS, hl⟩ := I
  have S9c := S9
  obtain ⟨hx, hb, hml, hown, hts⟩ := S9c
  refine lv_aload_n hx hb dL_law_1196 rfl (lv_at hl 2 rfl) ?_
  refine lwArg (j := 1) (v := 1) hx hb hX hbl hS hLL (by omega) (lv_at hl 1 rfl) (lv_at hl 0 rfl) rfl rfl dL_law_1197 dL_law_1198 dL_law_1200 dL_law_1201 dL_law_1202 ?_
  refine lv_aload_n hx hb dL_law_1203 rfl (lv_at hl 4 rfl) ?_
  have hA := a_capacityOf h (xs (i + 1))
  refine lwH (r := r21) (As := [.ref (a 0), .int (xs (i + 1)), .ref o]) (rest := []) hL S9 hK hE hC hM hO hS (c_L_capacityOf l G a hL.1 o hL.2.2.2.1 hst (xs (i + 1)) S ⟨n.2.1, h.ok.2.1, h.2.1.2.1⟩ f hA.cd H.size) (vx_cwSW 3 hts gL_law_L_capacityOf rfl rfl rfl (by decide +kernel) ⟨Nat.le_of_ble_eq_true rfl, Nat.le_of_ble_eq_true rfl⟩) rfl hl.1 rfl (Nat.le_of_ble_eq_true rfl) dL_law_1204 ⟨by omega, by omega⟩ (fun H locs hC hM hO hS => ?_)
  obtain ⟨e1, e2, e3⟩ := hA.law f
  generalize hR r21 (f_X3_capacityOf (xs (i + 1)) S) f = u at hC hO e1 e2 e3 ⊢
  refine lv_istore (lv' := [(5, .int u.1), (4, .int (nI i)), (0, .ref b), (1, .ref (a 0)), (2, .ref (bb 0)), (3, .ref o)]) hx hb dL_law_1207 hl (by decide) rfl (fun ls hl => ?_)
  refine lv_aload_n hx hb dL_law_1209 rfl (lv_at hl 4 rfl) ?_
  refine lwArg (j := 1) (v := 1) hx hb hX hbl hS hLL (by omega) (lv_at hl 2 rfl) (lv_at hl 1 rfl) rfl rfl dL_law_1210 dL_law_1211 dL_law_1213 dL_law_1214 dL_law_1215 ?_
  refine lwM (wf := MW G.2 bb n) (u0 := M) (As := [.int (xs (i + 1))]) (rest := []) hL S9 hK hC hM hO hS (c_X4_capacityOf l G bb hL.2.1 n h.ok (xs (i + 1)) M H.size) (cwV 1 hts gL_law_X4_capacityOf rfl rfl rfl (by decide +kernel) ⟨Nat.le_of_ble_eq_true rfl, Nat.le_of_ble_eq_true rfl⟩) (mrO hK hM) rfl hl.1 rfl (Nat.le_of_ble_eq_true rfl) dL_law_1216 ⟨by omega, by omega⟩ (fun p1 H locs ep hC hM hO hS => ?_)
  subst ep
  exact lwT (n := n) (M := (f_X4_capacityOf n (xs (i + 1)) M).2) (k2 := u.1) (b2 := (f_X4_capacityOf n (xs (i + 1)) M).1) (c0 := c0 + 2) (s0 := s0 + 12) hL S9 hK e3.ok hC hM hO hS hl e1 e2 ⟨by omega, by omega⟩ hf dL_law_1219 dL_law_1221 dL_law_1222 dL_law_1225 dL_law_1227 dL_law_1232 dL_law_1234 dL_law_1237 dL_law_1238 dL_law_1239 dL_law_1240 dL_law_1242 dL_law_1243 dL_law_1244 dL_law_1249 (by decide) (fun H1 locs1 ls1 hC hM hO hS hl => KK _ _ _ _ _ _ _ e3 hC hM hO hS hl)
set_option maxHeartbeats 4000000 in
set_option maxRecDepth 100000 in
theorem lc_generatorState (I : lcIn p l s m args c H locs ls G a bb o b i L c0 s0 S n M f xs) (KK : lcK p l e s m args below meth c Q G a bb o b i c0 s0) : W p l e room_1 s m args below meth c H locs c0 s0 Q (F0 m 1252 ls []) := by
  obtain ⟨hst, hL, S9, hK, hE, hX, hbl, hLL, hi, hf, h, hC, hM, hO, hS, hl⟩ := I
  have S9c := S9
  obtain ⟨hx, hb, hml, hown, hts⟩ := S9c
  refine lv_aload_n hx hb dL_law_1252 rfl (lv_at hl 2 rfl) ?_
  refine lwArg (j := 1) (v := 1) hx hb hX hbl hS hLL (by omega) (lv_at hl 1 rfl) (lv_at hl 0 rfl) rfl rfl dL_law_1253 dL_law_1254 dL_law_1256 dL_law_1257 dL_law_1258 ?_
  refine lv_aload_n hx hb dL_law_1259 rfl (lv_at hl 4 rfl) ?_
  have hA := a_generatorState h (xs (i + 1))
  refine lwH (r := r21) (As := [.ref (a 0), .int (xs (i + 1)), .ref o]) (rest := []) hL S9 hK hE hC hM hO hS (c_L_generatorState l G a hL.1 o hL.2.2.2.1 hst (xs (i + 1)) S ⟨n.2.2, h.ok.2.2, h.2.1.2.2.1⟩ f hA.cd H.size) (vx_cwSW 3 hts gL_law_L_generatorState rfl rfl rfl (by decide +kernel) ⟨Nat.le_of_ble_eq_true rfl, Nat.le_of_ble_eq_true rfl⟩) rfl hl.1 rfl (Nat.le_of_ble_eq_true rfl) dL_law_1260 ⟨by omega, by omega⟩ (fun H locs hC hM hO hS => ?_)
  obtain ⟨e1, e2, e3⟩ := hA.law f
  generalize hR r21 (f_X3_generatorState (xs (i + 1)) S) f = u at hC hO e1 e2 e3 ⊢
  refine lv_istore (lv' := [(5, .int u.1), (4, .int (nI i)), (0, .ref b), (1, .ref (a 0)), (2, .ref (bb 0)), (3, .ref o)]) hx hb dL_law_1263 hl (by decide) rfl (fun ls hl => ?_)
  refine lv_aload_n hx hb dL_law_1265 rfl (lv_at hl 4 rfl) ?_
  refine lwArg (j := 1) (v := 1) hx hb hX hbl hS hLL (by omega) (lv_at hl 2 rfl) (lv_at hl 1 rfl) rfl rfl dL_law_1266 dL_law_1267 dL_law_1269 dL_law_1270 dL_law_1271 ?_
  refine lwM (wf := MW G.2 bb n) (u0 := M) (As := [.int (xs (i + 1))]) (rest := []) hL S9 hK hC hM hO hS (c_X4_generatorState l G bb hL.2.1 n h.ok (xs (i + 1)) M H.size) (cwV 1 hts gL_law_X4_generatorState rfl rfl rfl (by decide +kernel) ⟨Nat.le_of_ble_eq_true rfl, Nat.le_of_ble_eq_true rfl⟩) (mrO hK hM) rfl hl.1 rfl (Nat.le_of_ble_eq_true rfl) dL_law_1272 ⟨by omega, by omega⟩ (fun p1 H locs ep hC hM hO hS => ?_)
  subst ep
  exact lwT (n := n) (M := (f_X4_generatorState n (xs (i + 1)) M).2) (k2 := u.1) (b2 := (f_X4_generatorState n (xs (i + 1)) M).1) (c0 := c0 + 2) (s0 := s0 + 12) hL S9 hK e3.ok hC hM hO hS hl e1 e2 ⟨by omega, by omega⟩ hf dL_law_1275 dL_law_1277 dL_law_1278 dL_law_1281 dL_law_1283 dL_law_1288 dL_law_1290 dL_law_1293 dL_law_1294 dL_law_1295 dL_law_1296 dL_law_1298 dL_law_1299 dL_law_1300 dL_law_1305 (by decide) (fun H1 locs1 ls1 hC hM hO hS hl => KK _ _ _ _ _ _ _ e3 hC hM hO hS hl)
set_option maxHeartbeats 4000000 in
set_option maxRecDepth 100000 in
theorem lc_fuelOf (I : lcIn p l s m args c H locs ls G a bb o b i L c0 s0 S n M f xs) (KK : lcK p l e s m args below meth c Q G a bb o b i c0 s0) : W p l e room_1 s m args below meth c H locs c0 s0 Q (F0 m 1308 ls []) := by
  obtain ⟨hst, hL, S9, hK, hE, hX, hbl, hLL, hi, hf, h, hC, hM, hO, hS, hl⟩ := I
  have S9c := S9
  obtain ⟨hx, hb, hml, hown, hts⟩ := S9c
  refine lv_aload_n hx hb dL_law_1308 rfl (lv_at hl 2 rfl) ?_
  refine lwArg (j := 1) (v := 1) hx hb hX hbl hS hLL (by omega) (lv_at hl 1 rfl) (lv_at hl 0 rfl) rfl rfl dL_law_1309 dL_law_1310 dL_law_1312 dL_law_1313 dL_law_1314 ?_
  refine lv_aload_n hx hb dL_law_1315 rfl (lv_at hl 4 rfl) ?_
  have hA := a_fuelOf h (xs (i + 1))
  refine lwH (r := r21) (As := [.ref (a 0), .int (xs (i + 1)), .ref o]) (rest := []) hL S9 hK hE hC hM hO hS (c_L_fuelOf l G a hL.1 o hL.2.2.2.1 hst (xs (i + 1)) S ⟨n.2.2, h.ok.2.2, h.2.1.2.2.1⟩ f hA.cd H.size) (vx_cwSW 3 hts gL_law_L_fuelOf rfl rfl rfl (by decide +kernel) ⟨Nat.le_of_ble_eq_true rfl, Nat.le_of_ble_eq_true rfl⟩) rfl hl.1 rfl (Nat.le_of_ble_eq_true rfl) dL_law_1316 ⟨by omega, by omega⟩ (fun H locs hC hM hO hS => ?_)
  obtain ⟨e1, e2, e3⟩ := hA.law f
  generalize hR r21 (f_X3_fuelOf (xs (i + 1)) S) f = u at hC hO e1 e2 e3 ⊢
  refine lv_istore (lv' := [(5, .int u.1), (4, .int (nI i)), (0, .ref b), (1, .ref (a 0)), (2, .ref (bb 0)), (3, .ref o)]) hx hb dL_law_1319 hl (by decide) rfl (fun ls hl => ?_)
  refine lv_aload_n hx hb dL_law_1321 rfl (lv_at hl 4 rfl) ?_
  refine lwArg (j := 1) (v := 1) hx hb hX hbl hS hLL (by omega) (lv_at hl 2 rfl) (lv_at hl 1 rfl) rfl rfl dL_law_1322 dL_law_1323 dL_law_1325 dL_law_1326 dL_law_1327 ?_
  refine lwM (wf := MW G.2 bb n) (u0 := M) (As := [.int (xs (i + 1))]) (rest := []) hL S9 hK hC hM hO hS (c_X4_fuelOf l G bb hL.2.1 n h.ok (xs (i + 1)) M H.size) (cwV 1 hts gL_law_X4_fuelOf rfl rfl rfl (by decide +kernel) ⟨Nat.le_of_ble_eq_true rfl, Nat.le_of_ble_eq_true rfl⟩) (mrO hK hM) rfl hl.1 rfl (Nat.le_of_ble_eq_true rfl) dL_law_1328 ⟨by omega, by omega⟩ (fun p1 H locs ep hC hM hO hS => ?_)
  subst ep
  exact lwT (n := n) (M := (f_X4_fuelOf n (xs (i + 1)) M).2) (k2 := u.1) (b2 := (f_X4_fuelOf n (xs (i + 1)) M).1) (c0 := c0 + 2) (s0 := s0 + 12) hL S9 hK e3.ok hC hM hO hS hl e1 e2 ⟨by omega, by omega⟩ hf dL_law_1331 dL_law_1333 dL_law_1334 dL_law_1337 dL_law_1339 dL_law_1344 dL_law_1346 dL_law_1349 dL_law_1350 dL_law_1351 dL_law_1352 dL_law_1354 dL_law_1355 dL_law_1356 dL_law_1361 (by decide) (fun H1 locs1 ls1 hC hM hO hS hl => KK _ _ _ _ _ _ _ e3 hC hM hO hS hl)
set_option maxHeartbeats 4000000 in
set_option maxRecDepth 100000 in
theorem lc_batteryMinutes (I : lcIn p l s m args c H locs ls G a bb o b i L c0 s0 S n M f xs) (KK : lcK p l e s m args below meth c Q G a bb o b i c0 s0) : W p l e room_1 s m args below meth c H locs c0 s0 Q (F0 m 1364 ls []) := by
  obtain ⟨hst, hL, S9, hK, hE, hX, hbl, hLL, hi, hf, h, hC, hM, hO, hS, hl⟩ := I
  have S9c := S9
  obtain ⟨hx, hb, hml, hown, hts⟩ := S9c
  refine lv_aload_n hx hb dL_law_1364 rfl (lv_at hl 2 rfl) ?_
  refine lwC (As := []) (rest := []) hL S9 hK hC hM hO hS (c_X3_batteryMinutes l G a hL.1 S H.size) (cwV 0 hts gL_law_X3_batteryMinutes rfl rfl rfl (by decide +kernel) ⟨Nat.le_of_ble_eq_true rfl, Nat.le_of_ble_eq_true rfl⟩) rfl hl.1 rfl (Nat.le_of_ble_eq_true rfl) dL_law_1365 ⟨by omega, by omega⟩ (fun p1 H locs ep hC hM hO hS => ?_)
  subst ep
  refine lv_aload_n hx hb dL_law_1368 rfl (lv_at hl 3 rfl) ?_
  refine lwM (wf := MW G.2 bb n) (u0 := M) (As := []) (rest := [.int (f_X3_batteryMinutes S).1]) hL S9 hK hC hM hO hS (c_X4_batteryMinutes l G bb hL.2.1 n h.ok M H.size) (cwV 0 hts gL_law_X4_batteryMinutes rfl rfl rfl (by decide +kernel) ⟨Nat.le_of_ble_eq_true rfl, Nat.le_of_ble_eq_true rfl⟩) (mrO hK hM) rfl hl.1 rfl (Nat.le_of_ble_eq_true rfl) dL_law_1369 ⟨by omega, by omega⟩ (fun p1 H locs ep hC hM hO hS => ?_)
  subst ep
  obtain ⟨hA1, hA2⟩ := b_batteryMinutes (n := n) h
  refine lv_icmp_eq (tgt := 1653) hx hb dL_law_1372 (by decide) (fun _ => ?_) (fun z => absurd hA1 z)
  refine W.widen (k := c0 + 2) (n := s0 + 12) (by omega) (by omega) ?_
  exact KK _ _ _ _ _ _ _ hA2 hC hM hO hS hl
set_option maxHeartbeats 4000000 in
set_option maxRecDepth 100000 in
theorem lc_energyOf (I : lcIn p l s m args c H locs ls G a bb o b i L c0 s0 S n M f xs) (KK : lcK p l e s m args below meth c Q G a bb o b i c0 s0) : W p l e room_1 s m args below meth c H locs c0 s0 Q (F0 m 1377 ls []) := by
  obtain ⟨hst, hL, S9, hK, hE, hX, hbl, hLL, hi, hf, h, hC, hM, hO, hS, hl⟩ := I
  have S9c := S9
  obtain ⟨hx, hb, hml, hown, hts⟩ := S9c
  refine lv_aload_n hx hb dL_law_1377 rfl (lv_at hl 2 rfl) ?_
  refine lwArg (j := 1) (v := 1) hx hb hX hbl hS hLL (by omega) (lv_at hl 1 rfl) (lv_at hl 0 rfl) rfl rfl dL_law_1378 dL_law_1379 dL_law_1381 dL_law_1382 dL_law_1383 ?_
  refine lv_aload_n hx hb dL_law_1384 rfl (lv_at hl 4 rfl) ?_
  have hA := a_energyOf h (xs (i + 1))
  refine lwH (r := r21) (As := [.ref (a 0), .int (xs (i + 1)), .ref o]) (rest := []) hL S9 hK hE hC hM hO hS (c_L_energyOf l G a hL.1 o hL.2.2.2.1 hst (xs (i + 1)) S ⟨n.1, h.ok.1, h.2.1.1⟩ f hA.cd H.size) (vx_cwSW 3 hts gL_law_L_energyOf rfl rfl rfl (by decide +kernel) ⟨Nat.le_of_ble_eq_true rfl, Nat.le_of_ble_eq_true rfl⟩) rfl hl.1 rfl (Nat.le_of_ble_eq_true rfl) dL_law_1385 ⟨by omega, by omega⟩ (fun H locs hC hM hO hS => ?_)
  obtain ⟨e1, e2, e3⟩ := hA.law f
  generalize hR r21 (f_X3_energyOf (xs (i + 1)) S) f = u at hC hO e1 e2 e3 ⊢
  refine lv_istore (lv' := [(5, .int u.1), (4, .int (nI i)), (0, .ref b), (1, .ref (a 0)), (2, .ref (bb 0)), (3, .ref o)]) hx hb dL_law_1388 hl (by decide) rfl (fun ls hl => ?_)
  refine lv_aload_n hx hb dL_law_1390 rfl (lv_at hl 4 rfl) ?_
  refine lwArg (j := 1) (v := 1) hx hb hX hbl hS hLL (by omega) (lv_at hl 2 rfl) (lv_at hl 1 rfl) rfl rfl dL_law_1391 dL_law_1392 dL_law_1394 dL_law_1395 dL_law_1396 ?_
  refine lwM (wf := MW G.2 bb n) (u0 := M) (As := [.int (xs (i + 1))]) (rest := []) hL S9 hK hC hM hO hS (c_X4_energyOf l G bb hL.2.1 n h.ok (xs (i + 1)) M H.size) (cwV 1 hts gL_law_X4_energyOf rfl rfl rfl (by decide +kernel) ⟨Nat.le_of_ble_eq_true rfl, Nat.le_of_ble_eq_true rfl⟩) (mrO hK hM) rfl hl.1 rfl (Nat.le_of_ble_eq_true rfl) dL_law_1397 ⟨by omega, by omega⟩ (fun p1 H locs ep hC hM hO hS => ?_)
  subst ep
  exact lwT (n := n) (M := (f_X4_energyOf n (xs (i + 1)) M).2) (k2 := u.1) (b2 := (f_X4_energyOf n (xs (i + 1)) M).1) (c0 := c0 + 2) (s0 := s0 + 12) hL S9 hK e3.ok hC hM hO hS hl e1 e2 ⟨by omega, by omega⟩ hf dL_law_1400 dL_law_1402 dL_law_1403 dL_law_1406 dL_law_1408 dL_law_1413 dL_law_1415 dL_law_1418 dL_law_1419 dL_law_1420 dL_law_1421 dL_law_1423 dL_law_1424 dL_law_1425 dL_law_1430 (by decide) (fun H1 locs1 ls1 hC hM hO hS hl => KK _ _ _ _ _ _ _ e3 hC hM hO hS hl)
set_option maxHeartbeats 4000000 in
set_option maxRecDepth 100000 in
theorem lc_darkMinutes (I : lcIn p l s m args c H locs ls G a bb o b i L c0 s0 S n M f xs) (KK : lcK p l e s m args below meth c Q G a bb o b i c0 s0) : W p l e room_1 s m args below meth c H locs c0 s0 Q (F0 m 1433 ls []) := by
  obtain ⟨hst, hL, S9, hK, hE, hX, hbl, hLL, hi, hf, h, hC, hM, hO, hS, hl⟩ := I
  have S9c := S9
  obtain ⟨hx, hb, hml, hown, hts⟩ := S9c
  refine lv_aload_n hx hb dL_law_1433 rfl (lv_at hl 2 rfl) ?_
  refine lwArg (j := 1) (v := 1) hx hb hX hbl hS hLL (by omega) (lv_at hl 1 rfl) (lv_at hl 0 rfl) rfl rfl dL_law_1434 dL_law_1435 dL_law_1437 dL_law_1438 dL_law_1439 ?_
  refine lv_aload_n hx hb dL_law_1440 rfl (lv_at hl 4 rfl) ?_
  have hA := a_darkMinutes h (xs (i + 1))
  refine lwH (r := r21) (As := [.ref (a 0), .int (xs (i + 1)), .ref o]) (rest := []) hL S9 hK hE hC hM hO hS (c_L_darkMinutes l G a hL.1 o hL.2.2.2.1 hst (xs (i + 1)) S ⟨n.1, h.ok.1, h.2.1.1⟩ f hA.cd H.size) (vx_cwSW 3 hts gL_law_L_darkMinutes rfl rfl rfl (by decide +kernel) ⟨Nat.le_of_ble_eq_true rfl, Nat.le_of_ble_eq_true rfl⟩) rfl hl.1 rfl (Nat.le_of_ble_eq_true rfl) dL_law_1441 ⟨by omega, by omega⟩ (fun H locs hC hM hO hS => ?_)
  obtain ⟨e1, e2, e3⟩ := hA.law f
  generalize hR r21 (f_X3_darkMinutes (xs (i + 1)) S) f = u at hC hO e1 e2 e3 ⊢
  refine lv_istore (lv' := [(5, .int u.1), (4, .int (nI i)), (0, .ref b), (1, .ref (a 0)), (2, .ref (bb 0)), (3, .ref o)]) hx hb dL_law_1444 hl (by decide) rfl (fun ls hl => ?_)
  refine lv_aload_n hx hb dL_law_1446 rfl (lv_at hl 4 rfl) ?_
  refine lwArg (j := 1) (v := 1) hx hb hX hbl hS hLL (by omega) (lv_at hl 2 rfl) (lv_at hl 1 rfl) rfl rfl dL_law_1447 dL_law_1448 dL_law_1450 dL_law_1451 dL_law_1452 ?_
  refine lwM (wf := MW G.2 bb n) (u0 := M) (As := [.int (xs (i + 1))]) (rest := []) hL S9 hK hC hM hO hS (c_X4_darkMinutes l G bb hL.2.1 n h.ok (xs (i + 1)) M H.size) (cwV 1 hts gL_law_X4_darkMinutes rfl rfl rfl (by decide +kernel) ⟨Nat.le_of_ble_eq_true rfl, Nat.le_of_ble_eq_true rfl⟩) (mrO hK hM) rfl hl.1 rfl (Nat.le_of_ble_eq_true rfl) dL_law_1453 ⟨by omega, by omega⟩ (fun p1 H locs ep hC hM hO hS => ?_)
  subst ep
  exact lwT (n := n) (M := (f_X4_darkMinutes n (xs (i + 1)) M).2) (k2 := u.1) (b2 := (f_X4_darkMinutes n (xs (i + 1)) M).1) (c0 := c0 + 2) (s0 := s0 + 12) hL S9 hK e3.ok hC hM hO hS hl e1 e2 ⟨by omega, by omega⟩ hf dL_law_1456 dL_law_1458 dL_law_1459 dL_law_1462 dL_law_1464 dL_law_1469 dL_law_1471 dL_law_1474 dL_law_1475 dL_law_1476 dL_law_1477 dL_law_1479 dL_law_1480 dL_law_1481 dL_law_1486 (by decide) (fun H1 locs1 ls1 hC hM hO hS hl => KK _ _ _ _ _ _ _ e3 hC hM hO hS hl)
set_option maxHeartbeats 4000000 in
set_option maxRecDepth 100000 in
theorem lc_fromMains (I : lcIn p l s m args c H locs ls G a bb o b i L c0 s0 S n M f xs) (KK : lcK p l e s m args below meth c Q G a bb o b i c0 s0) : W p l e room_1 s m args below meth c H locs c0 s0 Q (F0 m 1489 ls []) := by
  obtain ⟨hst, hL, S9, hK, hE, hX, hbl, hLL, hi, hf, h, hC, hM, hO, hS, hl⟩ := I
  have S9c := S9
  obtain ⟨hx, hb, hml, hown, hts⟩ := S9c
  refine lv_aload_n hx hb dL_law_1489 rfl (lv_at hl 2 rfl) ?_
  refine lwC (As := []) (rest := []) hL S9 hK hC hM hO hS (c_X3_fromMains l G a hL.1 S H.size) (cwV 0 hts gL_law_X3_fromMains rfl rfl rfl (by decide +kernel) ⟨Nat.le_of_ble_eq_true rfl, Nat.le_of_ble_eq_true rfl⟩) rfl hl.1 rfl (Nat.le_of_ble_eq_true rfl) dL_law_1490 ⟨by omega, by omega⟩ (fun p1 H locs ep hC hM hO hS => ?_)
  subst ep
  refine lv_aload_n hx hb dL_law_1493 rfl (lv_at hl 3 rfl) ?_
  refine lwM (wf := MW G.2 bb n) (u0 := M) (As := []) (rest := [.int (f_X3_fromMains S).1]) hL S9 hK hC hM hO hS (c_X4_fromMains l G bb hL.2.1 n h.ok M H.size) (cwV 0 hts gL_law_X4_fromMains rfl rfl rfl (by decide +kernel) ⟨Nat.le_of_ble_eq_true rfl, Nat.le_of_ble_eq_true rfl⟩) (mrO hK hM) rfl hl.1 rfl (Nat.le_of_ble_eq_true rfl) dL_law_1494 ⟨by omega, by omega⟩ (fun p1 H locs ep hC hM hO hS => ?_)
  subst ep
  obtain ⟨hA1, hA2⟩ := b_fromMains (n := n) h
  refine lv_icmp_eq (tgt := 1653) hx hb dL_law_1497 (by decide) (fun _ => ?_) (fun z => absurd hA1 z)
  refine W.widen (k := c0 + 2) (n := s0 + 12) (by omega) (by omega) ?_
  exact KK _ _ _ _ _ _ _ hA2 hC hM hO hS hl
set_option maxHeartbeats 4000000 in
set_option maxRecDepth 100000 in
theorem lc_fromGenerators (I : lcIn p l s m args c H locs ls G a bb o b i L c0 s0 S n M f xs) (KK : lcK p l e s m args below meth c Q G a bb o b i c0 s0) : W p l e room_1 s m args below meth c H locs c0 s0 Q (F0 m 1502 ls []) := by
  obtain ⟨hst, hL, S9, hK, hE, hX, hbl, hLL, hi, hf, h, hC, hM, hO, hS, hl⟩ := I
  have S9c := S9
  obtain ⟨hx, hb, hml, hown, hts⟩ := S9c
  refine lv_aload_n hx hb dL_law_1502 rfl (lv_at hl 2 rfl) ?_
  refine lwC (As := []) (rest := []) hL S9 hK hC hM hO hS (c_X3_fromGenerators l G a hL.1 S H.size) (cwV 0 hts gL_law_X3_fromGenerators rfl rfl rfl (by decide +kernel) ⟨Nat.le_of_ble_eq_true rfl, Nat.le_of_ble_eq_true rfl⟩) rfl hl.1 rfl (Nat.le_of_ble_eq_true rfl) dL_law_1503 ⟨by omega, by omega⟩ (fun p1 H locs ep hC hM hO hS => ?_)
  subst ep
  refine lv_aload_n hx hb dL_law_1506 rfl (lv_at hl 3 rfl) ?_
  refine lwM (wf := MW G.2 bb n) (u0 := M) (As := []) (rest := [.int (f_X3_fromGenerators S).1]) hL S9 hK hC hM hO hS (c_X4_fromGenerators l G bb hL.2.1 n h.ok M H.size) (cwV 0 hts gL_law_X4_fromGenerators rfl rfl rfl (by decide +kernel) ⟨Nat.le_of_ble_eq_true rfl, Nat.le_of_ble_eq_true rfl⟩) (mrO hK hM) rfl hl.1 rfl (Nat.le_of_ble_eq_true rfl) dL_law_1507 ⟨by omega, by omega⟩ (fun p1 H locs ep hC hM hO hS => ?_)
  subst ep
  obtain ⟨hA1, hA2⟩ := b_fromGenerators (n := n) h
  refine lv_icmp_eq (tgt := 1653) hx hb dL_law_1510 (by decide) (fun _ => ?_) (fun z => absurd hA1 z)
  refine W.widen (k := c0 + 2) (n := s0 + 12) (by omega) (by omega) ?_
  exact KK _ _ _ _ _ _ _ hA2 hC hM hO hS hl
set_option maxHeartbeats 4000000 in
set_option maxRecDepth 100000 in
theorem lc_fromBatteries (I : lcIn p l s m args c H locs ls G a bb o b i L c0 s0 S n M f xs) (KK : lcK p l e s m args below meth c Q G a bb o b i c0 s0) : W p l e room_1 s m args below meth c H locs c0 s0 Q (F0 m 1515 ls []) := by
  obtain ⟨hst, hL, S9, hK, hE, hX, hbl, hLL, hi, hf, h, hC, hM, hO, hS, hl⟩ := I
  have S9c := S9
  obtain ⟨hx, hb, hml, hown, hts⟩ := S9c
  refine lv_aload_n hx hb dL_law_1515 rfl (lv_at hl 2 rfl) ?_
  refine lwC (As := []) (rest := []) hL S9 hK hC hM hO hS (c_X3_fromBatteries l G a hL.1 S H.size) (cwV 0 hts gL_law_X3_fromBatteries rfl rfl rfl (by decide +kernel) ⟨Nat.le_of_ble_eq_true rfl, Nat.le_of_ble_eq_true rfl⟩) rfl hl.1 rfl (Nat.le_of_ble_eq_true rfl) dL_law_1516 ⟨by omega, by omega⟩ (fun p1 H locs ep hC hM hO hS => ?_)
  subst ep
  refine lv_aload_n hx hb dL_law_1519 rfl (lv_at hl 3 rfl) ?_
  refine lwM (wf := MW G.2 bb n) (u0 := M) (As := []) (rest := [.int (f_X3_fromBatteries S).1]) hL S9 hK hC hM hO hS (c_X4_fromBatteries l G bb hL.2.1 n h.ok M H.size) (cwV 0 hts gL_law_X4_fromBatteries rfl rfl rfl (by decide +kernel) ⟨Nat.le_of_ble_eq_true rfl, Nat.le_of_ble_eq_true rfl⟩) (mrO hK hM) rfl hl.1 rfl (Nat.le_of_ble_eq_true rfl) dL_law_1520 ⟨by omega, by omega⟩ (fun p1 H locs ep hC hM hO hS => ?_)
  subst ep
  obtain ⟨hA1, hA2⟩ := b_fromBatteries (n := n) h
  refine lv_icmp_eq (tgt := 1653) hx hb dL_law_1523 (by decide) (fun _ => ?_) (fun z => absurd hA1 z)
  refine W.widen (k := c0 + 2) (n := s0 + 12) (by omega) (by omega) ?_
  exact KK _ _ _ _ _ _ _ hA2 hC hM hO hS hl
set_option maxHeartbeats 4000000 in
set_option maxRecDepth 100000 in
theorem lc_intoBatteries (I : lcIn p l s m args c H locs ls G a bb o b i L c0 s0 S n M f xs) (KK : lcK p l e s m args below meth c Q G a bb o b i c0 s0) : W p l e room_1 s m args below meth c H locs c0 s0 Q (F0 m 1528 ls []) := by
  obtain ⟨hst, hL, S9, hK, hE, hX, hbl, hLL, hi, hf, h, hC, hM, hO, hS, hl⟩ := I
  have S9c := S9
  obtain ⟨hx, hb, hml, hown, hts⟩ := S9c
  refine lv_aload_n hx hb dL_law_1528 rfl (lv_at hl 2 rfl) ?_
  refine lwC (As := []) (rest := []) hL S9 hK hC hM hO hS (c_X3_intoBatteries l G a hL.1 S H.size) (cwV 0 hts gL_law_X3_intoBatteries rfl rfl rfl (by decide +kernel) ⟨Nat.le_of_ble_eq_true rfl, Nat.le_of_ble_eq_true rfl⟩) rfl hl.1 rfl (Nat.le_of_ble_eq_true rfl) dL_law_1529 ⟨by omega, by omega⟩ (fun p1 H locs ep hC hM hO hS => ?_)
  subst ep
  refine lv_aload_n hx hb dL_law_1532 rfl (lv_at hl 3 rfl) ?_
  refine lwM (wf := MW G.2 bb n) (u0 := M) (As := []) (rest := [.int (f_X3_intoBatteries S).1]) hL S9 hK hC hM hO hS (c_X4_intoBatteries l G bb hL.2.1 n h.ok M H.size) (cwV 0 hts gL_law_X4_intoBatteries rfl rfl rfl (by decide +kernel) ⟨Nat.le_of_ble_eq_true rfl, Nat.le_of_ble_eq_true rfl⟩) (mrO hK hM) rfl hl.1 rfl (Nat.le_of_ble_eq_true rfl) dL_law_1533 ⟨by omega, by omega⟩ (fun p1 H locs ep hC hM hO hS => ?_)
  subst ep
  obtain ⟨hA1, hA2⟩ := b_intoBatteries (n := n) h
  refine lv_icmp_eq (tgt := 1653) hx hb dL_law_1536 (by decide) (fun _ => ?_) (fun z => absurd hA1 z)
  refine W.widen (k := c0 + 2) (n := s0 + 12) (by omega) (by omega) ?_
  exact KK _ _ _ _ _ _ _ hA2 hC hM hO hS hl
set_option maxHeartbeats 4000000 in
set_option maxRecDepth 100000 in
theorem lc_failedStarts (I : lcIn p l s m args c H locs ls G a bb o b i L c0 s0 S n M f xs) (KK : lcK p l e s m args below meth c Q G a bb o b i c0 s0) : W p l e room_1 s m args below meth c H locs c0 s0 Q (F0 m 1541 ls []) := by
  obtain ⟨hst, hL, S9, hK, hE, hX, hbl, hLL, hi, hf, h, hC, hM, hO, hS, hl⟩ := I
  have S9c := S9
  obtain ⟨hx, hb, hml, hown, hts⟩ := S9c
  refine lv_aload_n hx hb dL_law_1541 rfl (lv_at hl 2 rfl) ?_
  refine lwArg (j := 1) (v := 1) hx hb hX hbl hS hLL (by omega) (lv_at hl 1 rfl) (lv_at hl 0 rfl) rfl rfl dL_law_1542 dL_law_1543 dL_law_1545 dL_law_1546 dL_law_1547 ?_
  refine lv_aload_n hx hb dL_law_1548 rfl (lv_at hl 4 rfl) ?_
  have hA := a_failedStarts h (xs (i + 1))
  refine lwH (r := r21) (As := [.ref (a 0), .int (xs (i + 1)), .ref o]) (rest := []) hL S9 hK hE hC hM hO hS (c_L_failedStarts l G a hL.1 o hL.2.2.2.1 hst (xs (i + 1)) S ⟨n.2.2, h.ok.2.2, h.2.1.2.2.1⟩ f hA.cd H.size) (vx_cwSW 3 hts gL_law_L_failedStarts rfl rfl rfl (by decide +kernel) ⟨Nat.le_of_ble_eq_true rfl, Nat.le_of_ble_eq_true rfl⟩) rfl hl.1 rfl (Nat.le_of_ble_eq_true rfl) dL_law_1549 ⟨by omega, by omega⟩ (fun H locs hC hM hO hS => ?_)
  obtain ⟨e1, e2, e3⟩ := hA.law f
  generalize hR r21 (f_X3_failedStarts (xs (i + 1)) S) f = u at hC hO e1 e2 e3 ⊢
  refine lv_istore (lv' := [(5, .int u.1), (4, .int (nI i)), (0, .ref b), (1, .ref (a 0)), (2, .ref (bb 0)), (3, .ref o)]) hx hb dL_law_1552 hl (by decide) rfl (fun ls hl => ?_)
  refine lv_aload_n hx hb dL_law_1554 rfl (lv_at hl 4 rfl) ?_
  refine lwArg (j := 1) (v := 1) hx hb hX hbl hS hLL (by omega) (lv_at hl 2 rfl) (lv_at hl 1 rfl) rfl rfl dL_law_1555 dL_law_1556 dL_law_1558 dL_law_1559 dL_law_1560 ?_
  refine lwM (wf := MW G.2 bb n) (u0 := M) (As := [.int (xs (i + 1))]) (rest := []) hL S9 hK hC hM hO hS (c_X4_failedStarts l G bb hL.2.1 n h.ok (xs (i + 1)) M H.size) (cwV 1 hts gL_law_X4_failedStarts rfl rfl rfl (by decide +kernel) ⟨Nat.le_of_ble_eq_true rfl, Nat.le_of_ble_eq_true rfl⟩) (mrO hK hM) rfl hl.1 rfl (Nat.le_of_ble_eq_true rfl) dL_law_1561 ⟨by omega, by omega⟩ (fun p1 H locs ep hC hM hO hS => ?_)
  subst ep
  exact lwT (n := n) (M := (f_X4_failedStarts n (xs (i + 1)) M).2) (k2 := u.1) (b2 := (f_X4_failedStarts n (xs (i + 1)) M).1) (c0 := c0 + 2) (s0 := s0 + 12) hL S9 hK e3.ok hC hM hO hS hl e1 e2 ⟨by omega, by omega⟩ hf dL_law_1564 dL_law_1566 dL_law_1567 dL_law_1570 dL_law_1572 dL_law_1577 dL_law_1579 dL_law_1582 dL_law_1583 dL_law_1584 dL_law_1585 dL_law_1587 dL_law_1588 dL_law_1589 dL_law_1594 (by decide) (fun H1 locs1 ls1 hC hM hO hS hl => KK _ _ _ _ _ _ _ e3 hC hM hO hS hl)
set_option maxHeartbeats 4000000 in
set_option maxRecDepth 100000 in
theorem lc_tests (I : lcIn p l s m args c H locs ls G a bb o b i L c0 s0 S n M f xs) (KK : lcK p l e s m args below meth c Q G a bb o b i c0 s0) : W p l e room_1 s m args below meth c H locs c0 s0 Q (F0 m 1597 ls []) := by
  obtain ⟨hst, hL, S9, hK, hE, hX, hbl, hLL, hi, hf, h, hC, hM, hO, hS, hl⟩ := I
  have S9c := S9
  obtain ⟨hx, hb, hml, hown, hts⟩ := S9c
  refine lv_aload_n hx hb dL_law_1597 rfl (lv_at hl 2 rfl) ?_
  refine lwArg (j := 1) (v := 1) hx hb hX hbl hS hLL (by omega) (lv_at hl 1 rfl) (lv_at hl 0 rfl) rfl rfl dL_law_1598 dL_law_1599 dL_law_1601 dL_law_1602 dL_law_1603 ?_
  refine lv_aload_n hx hb dL_law_1604 rfl (lv_at hl 4 rfl) ?_
  have hA := a_tests h (xs (i + 1))
  refine lwH (r := r21) (As := [.ref (a 0), .int (xs (i + 1)), .ref o]) (rest := []) hL S9 hK hE hC hM hO hS (c_L_tests l G a hL.1 o hL.2.2.2.1 hst (xs (i + 1)) S ⟨n.2.2, h.ok.2.2, h.2.1.2.2.1⟩ f hA.cd H.size) (vx_cwSW 3 hts gL_law_L_tests rfl rfl rfl (by decide +kernel) ⟨Nat.le_of_ble_eq_true rfl, Nat.le_of_ble_eq_true rfl⟩) rfl hl.1 rfl (Nat.le_of_ble_eq_true rfl) dL_law_1605 ⟨by omega, by omega⟩ (fun H locs hC hM hO hS => ?_)
  obtain ⟨e1, e2, e3⟩ := hA.law f
  generalize hR r21 (f_X3_tests (xs (i + 1)) S) f = u at hC hO e1 e2 e3 ⊢
  refine lv_istore (lv' := [(5, .int u.1), (4, .int (nI i)), (0, .ref b), (1, .ref (a 0)), (2, .ref (bb 0)), (3, .ref o)]) hx hb dL_law_1608 hl (by decide) rfl (fun ls hl => ?_)
  refine lv_aload_n hx hb dL_law_1610 rfl (lv_at hl 4 rfl) ?_
  refine lwArg (j := 1) (v := 1) hx hb hX hbl hS hLL (by omega) (lv_at hl 2 rfl) (lv_at hl 1 rfl) rfl rfl dL_law_1611 dL_law_1612 dL_law_1614 dL_law_1615 dL_law_1616 ?_
  refine lwM (wf := MW G.2 bb n) (u0 := M) (As := [.int (xs (i + 1))]) (rest := []) hL S9 hK hC hM hO hS (c_X4_tests l G bb hL.2.1 n h.ok (xs (i + 1)) M H.size) (cwV 1 hts gL_law_X4_tests rfl rfl rfl (by decide +kernel) ⟨Nat.le_of_ble_eq_true rfl, Nat.le_of_ble_eq_true rfl⟩) (mrO hK hM) rfl hl.1 rfl (Nat.le_of_ble_eq_true rfl) dL_law_1617 ⟨by omega, by omega⟩ (fun p1 H locs ep hC hM hO hS => ?_)
  subst ep
  exact lwT (n := n) (M := (f_X4_tests n (xs (i + 1)) M).2) (k2 := u.1) (b2 := (f_X4_tests n (xs (i + 1)) M).1) (c0 := c0 + 2) (s0 := s0 + 12) hL S9 hK e3.ok hC hM hO hS hl e1 e2 ⟨by omega, by omega⟩ hf dL_law_1620 dL_law_1622 dL_law_1623 dL_law_1626 dL_law_1628 dL_law_1633 dL_law_1635 dL_law_1638 dL_law_1639 dL_law_1640 dL_law_1641 dL_law_1643 dL_law_1644 dL_law_1645 dL_law_1650 (by decide) (fun H1 locs1 ls1 hC hM hO hS hl => KK _ _ _ _ _ _ _ e3 hC hM hO hS hl)
end LCS

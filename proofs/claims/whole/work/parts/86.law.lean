-- 86.law
/-! the law -/
def mL (nm : String) : Mi := (⟨RL, nm, "([I)Z"⟩, cL_law, 4, ret, RL)
def lw_Q (_ : Array Value) (s : State) (o : Outcome) (t : State) : Prop := o = .returned (some (.int 1)) ∧ Framed s o t [] 600000 7302250
def lw_Z (below : List Frame) (a : Array Value) (s : State) : State → Prop := fun t => ∃ o, t.status = .running ∧ Ended t below o ∧ lw_Q a s o t
-- the law's own end, with 1 on the stack, nothing written that was there before, its room as the claim has it
set_option maxHeartbeats 4000000 in
theorem lw_ret {p : Program} {l : Launch} {e : Env} {s : State} {m : MethodId} {args : Array Value} {below : List Frame} {meth : Method} {c : Code} (hx : p.tables.exec = Jvm.exec) (hb : c.code = code) (hr : meth.sig.returnType = ret) (hlocks : meth.locks = false) {pc : Nat} {H : Heap} {ls : Array Slot} (hdg : decode code pc = .ok (.ireturn, 1)) : W p l e room_1 s m args below meth c H [] 600000 7302250 (lw_Z below args s) (F0 m pc ls [.int 1]) := by
  intro T hT X
  obtain ⟨fs, hret, hrun, hended, hW, hframe⟩ := X.leave (v := some (.int 1)) (hlocks := hlocks) (fun h => by rw [hr] at h; cases h)
  have hmeth' : T.vm.method? m = some meth := X.method'
  refine ⟨T.setFrames fs, ?_, .returned (some (.int 1)), hrun, hended, rfl, ⟨_, rfl⟩, hW, hframe⟩
  jvm_step X.here [X.here.top, hx, hb, hdg, hmeth', hr, ret, narrow_b1]
  (try refine ⟨rfl, ?_⟩); (try refine ⟨rfl, ?_⟩)
  first | (intro acts; rw [hret _ acts rfl rfl rfl]) | rw [hret _ _ rfl rfl rfl]
  exact Steps.refl _
def QL (G : Gm) : Qfun := fun below args s t => s.heap.size = G.2.1 → lw_Z below args s t
def gL (G : Gm) : Nat := G.2.2.2.2.2.1
def gS (G : Gm) : Nat → Int32 := G.2.2.2.2.2.2.1
def lvL (i : Nat) : List (Nat × Value) := [(3, .int (Int32.ofNat i)), (2, .ref 75), (1, .ref 0), (0, .ref 1002)]
section
variable {G : Gm} {nm : String} {kc ks pc t n j i : Nat} {lv : List (Nat × Value)} {st : List Value} {S : St} {m : Mem}
set_option maxHeartbeats 4000000 in
theorem WP.lend (hd : decode code pc = .ok (.ireturn, 1)) (hc : kc ≤ 600000) (hs : ks ≤ 7302250) : WP G room_1 (mL nm) (QL G) kc ks pc lv [.int 1] S := by
  intro p e s m args below meth c E H locs ls hW hS hl
  by_cases hz : s.heap.size = G.2.1
  · refine W.widen hc hs (va_forget (fun q hq => ?_) ?_)
    · rw [hz]; exact hS.2.2 q hq
    · intro T hT X
      obtain ⟨t, a1, b1⟩ := lw_ret (l := G.1) (args := args) (below := below) (e := e) (s := s) (m := m) (H := H) (ls := ls) E.1 E.2.1 E.2.2.1 E.2.2.2.2.2.2.1 hd T hT X
      exact ⟨t, a1, fun _ => b1⟩
  · exact fun T hT X => ⟨_, Steps.refl _, fun e => absurd e hz⟩
set_option maxHeartbeats 4000000 in
theorem WP.sarg (k : Nat) {kz : Int} (hk : k ≤ 5) (hz : Int32.ofInt kz = Int32.ofNat k) (hi : i + 6 ≤ gL G) (hL : gL G ≤ 3072) (d0 : decode code pc = .ok (.aload_n 0, 1)) (d1 : decode code (pc + 1) = .ok (.iload_n 3, 1)) (d2 : decode code (pc + 2) = .ok (.iconst kz, 1)) (d3 : decode code (pc + 3) = .ok (.iadd, 1)) (d4 : decode code (pc + 4) = .ok (.iaload, 1)) (kk : WP G room_1 (mL nm) (QL G) kc ks (pc + 5) (lvL i) (.int (gS G (i + k)) :: st) S) : WP G room_1 (mL nm) (QL G) kc ks pc (lvL i) st S := by
  refine WP.aload_n 3 d0 rfl rfl ?_
  refine WP.iload_n 0 d1 rfl rfl ?_
  refine WP.iconst (v := Int32.ofNat k) d2 hz ?_
  refine WP.iadd d3 ?_
  rw [o_add]
  refine WP.iaScript (ib_o (by unfold gL at hi; omega) (by unfold gL at hL; omega)) d4 ?_
  rw [tn_o (by omega)]
  exact kk
set_option maxHeartbeats 4000000 in
theorem lw_gt {L i : Nat} (hL : L ≤ 3072) (hi : i ≤ 3072) (h : L < i + 6) : Int32.ofNat L - 6 < Int32.ofNat i := by
  rw [Int32.lt_iff_toInt_lt, Int32.toInt_sub, Int32.toInt_ofNat_of_lt (by omega), Int32.toInt_ofNat_of_lt (by omega), show (6 : Int32).toInt = 6 from rfl, Int.bmod_eq_of_le (by omega) (by omega)]
  omega
set_option maxHeartbeats 4000000 in
theorem rmL : rmOk room_1 60 89 3866 0 0 := ⟨Nat.le_of_ble_eq_true rfl, Nat.le_of_ble_eq_true rfl, Nat.le_of_ble_eq_true rfl, Nat.le_of_ble_eq_true rfl⟩
set_option maxHeartbeats 4000000 in
theorem cmp_rr (r : Int64) : lg_cmp r r = 0 := by
  unfold lg_cmp
  rw [if_neg (show ¬ r > r from Int64.lt_irrefl), if_pos rfl]
set_option maxHeartbeats 4000000 in
theorem lc_0 (hG : fl G = false) (hi : i + 6 ≤ gL G) (hL : gL G ≤ 3072) (hV : jV m) (k : ∀ t n j m, jV m → WP G room_1 (mL nm) (QL G) 89 3866 1281 (lvL i) [] (SH, TA t n j, m)) : WP G room_1 (mL nm) (QL G) 89 3866 192 (lvL i) [] (SH, TA t n j, m) := by
  refine WP.aload_n 2 dL_law_192 rfl rfl ?_
  refine WP.sarg 1 (by decide) (by decide) hi hL dL_law_193 dL_law_194 dL_law_195 dL_law_196 dL_law_197 ?_
  refine WP.sarg 2 (by decide) (by decide) hi hL dL_law_198 dL_law_199 dL_law_200 dL_law_201 dL_law_202 ?_
  refine WP.callV (y := mX5_lay) (d := 60) (mc := 0) (ms := 0) (As := [.int (gS G (i + 1)), .int (gS G (i + 2))]) (st := []) dL_law_203 wm_L_13 mw_X5_lay rfl (Nat.le_of_ble_eq_true rfl) rmL (rfl : SH[0]? = some (.inl 5)) (by decide) rfl (J_lay hG (by decide) hV) (fun v S' h => ?_)
  obtain ⟨m1, rfl, r, rfl, h2⟩ := h
  show WP G _ _ _ _ _ 206 (lvL i) [.int r] (SH, TA t n j, m1)
  refine WP.aload_n 1 dL_law_206 rfl rfl ?_
  refine WP.sarg 1 (by decide) (by decide) hi hL dL_law_207 dL_law_208 dL_law_209 dL_law_210 dL_law_211 ?_
  refine WP.sarg 2 (by decide) (by decide) hi hL dL_law_212 dL_law_213 dL_law_214 dL_law_215 dL_law_216 ?_
  refine WP.callV (y := mX6_lay) (d := 60) (mc := 0) (ms := 0) (As := [.int (gS G (i + 1)), .int (gS G (i + 2))]) (st := [.int r]) dL_law_217 wm_L_17 mw_X6_lay rfl (Nat.le_of_ble_eq_true rfl) rmL (rfl : SH[75]? = some (.inl 6)) (by decide) rfl h2 (fun v S' h => ?_)
  obtain ⟨m2, rfl, rfl, h3⟩ := h
  show WP G _ _ _ _ _ 220 (lvL i) [.int r, .int r] (SH, TA t n j, m2)
  exact WP.icmp_eq (tgt := 1281) dL_law_220 (by decide) (fun _ => k _ _ _ _ h3) (fun c => absurd rfl c)
set_option maxHeartbeats 4000000 in
theorem lc_1 (hG : fl G = false) (hi : i + 6 ≤ gL G) (hL : gL G ≤ 3072) (hV : jV m) (k : ∀ t n j m, jV m → WP G room_1 (mL nm) (QL G) 89 3866 1281 (lvL i) [] (SH, TA t n j, m)) : WP G room_1 (mL nm) (QL G) 89 3866 225 (lvL i) [] (SH, TA t n j, m) := by
  refine WP.aload_n 2 dL_law_225 rfl rfl ?_
  refine WP.sarg 1 (by decide) (by decide) hi hL dL_law_226 dL_law_227 dL_law_228 dL_law_229 dL_law_230 ?_
  refine WP.sarg 2 (by decide) (by decide) hi hL dL_law_231 dL_law_232 dL_law_233 dL_law_234 dL_law_235 ?_
  refine WP.callV (y := mX5_thingIs) (d := 60) (mc := 0) (ms := 0) (As := [.int (gS G (i + 1)), .int (gS G (i + 2))]) (st := []) dL_law_236 wm_L_18 mw_X5_thingIs rfl (Nat.le_of_ble_eq_true rfl) rmL (rfl : SH[0]? = some (.inl 5)) (by decide) rfl (J_thingIs hG (by decide) hV) (fun v S' h => ?_)
  obtain ⟨m1, rfl, r, rfl, h2⟩ := h
  show WP G _ _ _ _ _ 239 (lvL i) [.int r] (SH, TA t n j, m1)
  refine WP.aload_n 1 dL_law_239 rfl rfl ?_
  refine WP.sarg 1 (by decide) (by decide) hi hL dL_law_240 dL_law_241 dL_law_242 dL_law_243 dL_law_244 ?_
  refine WP.sarg 2 (by decide) (by decide) hi hL dL_law_245 dL_law_246 dL_law_247 dL_law_248 dL_law_249 ?_
  refine WP.callV (y := mX6_thingIs) (d := 60) (mc := 0) (ms := 0) (As := [.int (gS G (i + 1)), .int (gS G (i + 2))]) (st := [.int r]) dL_law_250 wm_L_21 mw_X6_thingIs rfl (Nat.le_of_ble_eq_true rfl) rmL (rfl : SH[75]? = some (.inl 6)) (by decide) rfl h2 (fun v S' h => ?_)
  obtain ⟨m2, rfl, rfl, h3⟩ := h
  show WP G _ _ _ _ _ 253 (lvL i) [.int r, .int r] (SH, TA t n j, m2)
  exact WP.icmp_eq (tgt := 1281) dL_law_253 (by decide) (fun _ => k _ _ _ _ h3) (fun c => absurd rfl c)
set_option maxHeartbeats 4000000 in
theorem lc_2 (hG : fl G = false) (hi : i + 6 ≤ gL G) (hL : gL G ≤ 3072) (hV : jV m) (k : ∀ t n j m, jV m → WP G room_1 (mL nm) (QL G) 89 3866 1281 (lvL i) [] (SH, TA t n j, m)) : WP G room_1 (mL nm) (QL G) 89 3866 258 (lvL i) [] (SH, TA t n j, m) := by
  refine WP.aload_n 2 dL_law_258 rfl rfl ?_
  refine WP.sarg 1 (by decide) (by decide) hi hL dL_law_259 dL_law_260 dL_law_261 dL_law_262 dL_law_263 ?_
  refine WP.sarg 2 (by decide) (by decide) hi hL dL_law_264 dL_law_265 dL_law_266 dL_law_267 dL_law_268 ?_
  refine WP.callV (y := mX5_as) (d := 60) (mc := 0) (ms := 0) (As := [.int (gS G (i + 1)), .int (gS G (i + 2))]) (st := []) dL_law_269 wm_L_22 mw_X5_as rfl (Nat.le_of_ble_eq_true rfl) rmL (rfl : SH[0]? = some (.inl 5)) (by decide) rfl (J_as hG (by decide) hV) (fun v S' h => ?_)
  obtain ⟨m1, rfl, r, rfl, h2⟩ := h
  show WP G _ _ _ _ _ 272 (lvL i) [.int r] (SH, TA t n j, m1)
  refine WP.aload_n 1 dL_law_272 rfl rfl ?_
  refine WP.sarg 1 (by decide) (by decide) hi hL dL_law_273 dL_law_274 dL_law_275 dL_law_276 dL_law_277 ?_
  refine WP.sarg 2 (by decide) (by decide) hi hL dL_law_278 dL_law_279 dL_law_280 dL_law_281 dL_law_282 ?_
  refine WP.callV (y := mX6_as) (d := 60) (mc := 0) (ms := 0) (As := [.int (gS G (i + 1)), .int (gS G (i + 2))]) (st := [.int r]) dL_law_283 wm_L_25 mw_X6_as rfl (Nat.le_of_ble_eq_true rfl) rmL (rfl : SH[75]? = some (.inl 6)) (by decide) rfl h2 (fun v S' h => ?_)
  obtain ⟨m2, rfl, rfl, h3⟩ := h
  show WP G _ _ _ _ _ 286 (lvL i) [.int r, .int r] (SH, TA t n j, m2)
  exact WP.icmp_eq (tgt := 1281) dL_law_286 (by decide) (fun _ => k _ _ _ _ h3) (fun c => absurd rfl c)
set_option maxHeartbeats 4000000 in
theorem lc_3 (hG : fl G = false) (hi : i + 6 ≤ gL G) (hL : gL G ≤ 3072) (hV : jV m) (k : ∀ t n j m, jV m → WP G room_1 (mL nm) (QL G) 89 3866 1281 (lvL i) [] (SH, TA t n j, m)) : WP G room_1 (mL nm) (QL G) 89 3866 291 (lvL i) [] (SH, TA t n j, m) := by
  refine WP.aload_n 2 dL_law_291 rfl rfl ?_
  refine WP.sarg 1 (by decide) (by decide) hi hL dL_law_292 dL_law_293 dL_law_294 dL_law_295 dL_law_296 ?_
  refine WP.sarg 2 (by decide) (by decide) hi hL dL_law_297 dL_law_298 dL_law_299 dL_law_300 dL_law_301 ?_
  refine WP.sarg 3 (by decide) (by decide) hi hL dL_law_302 dL_law_303 dL_law_304 dL_law_305 dL_law_306 ?_
  refine WP.callV (y := mX5_set) (d := 60) (mc := 0) (ms := 0) (As := [.int (gS G (i + 1)), .int (gS G (i + 2)), .int (gS G (i + 3))]) (st := []) dL_law_307 wm_L_26 mw_X5_set rfl (Nat.le_of_ble_eq_true rfl) rmL (rfl : SH[0]? = some (.inl 5)) (by decide) rfl (J_set hG (by decide) hV) (fun v S' h => ?_)
  obtain ⟨m1, rfl, r, rfl, h2⟩ := h
  show WP G _ _ _ _ _ 310 (lvL i) [.int r] (SH, TA t n j, m1)
  refine WP.aload_n 1 dL_law_310 rfl rfl ?_
  refine WP.sarg 1 (by decide) (by decide) hi hL dL_law_311 dL_law_312 dL_law_313 dL_law_314 dL_law_315 ?_
  refine WP.sarg 2 (by decide) (by decide) hi hL dL_law_316 dL_law_317 dL_law_318 dL_law_319 dL_law_320 ?_
  refine WP.sarg 3 (by decide) (by decide) hi hL dL_law_321 dL_law_322 dL_law_323 dL_law_324 dL_law_325 ?_
  refine WP.callV (y := mX6_set) (d := 60) (mc := 0) (ms := 0) (As := [.int (gS G (i + 1)), .int (gS G (i + 2)), .int (gS G (i + 3))]) (st := [.int r]) dL_law_326 wm_L_30 mw_X6_set rfl (Nat.le_of_ble_eq_true rfl) rmL (rfl : SH[75]? = some (.inl 6)) (by decide) rfl h2 (fun v S' h => ?_)
  obtain ⟨m2, rfl, rfl, h3⟩ := h
  show WP G _ _ _ _ _ 329 (lvL i) [.int r, .int r] (SH, TA t n j, m2)
  exact WP.icmp_eq (tgt := 1281) dL_law_329 (by decide) (fun _ => k _ _ _ _ h3) (fun c => absurd rfl c)
set_option maxHeartbeats 4000000 in
theorem lc_4 (hG : fl G = false) (hi : i + 6 ≤ gL G) (hL : gL G ≤ 3072) (hV : jV m) (k : ∀ t n j m, jV m → WP G room_1 (mL nm) (QL G) 89 3866 1281 (lvL i) [] (SH, TA t n j, m)) : WP G room_1 (mL nm) (QL G) 89 3866 334 (lvL i) [] (SH, TA t n j, m) := by
  refine WP.aload_n 2 dL_law_334 rfl rfl ?_
  refine WP.sarg 1 (by decide) (by decide) hi hL dL_law_335 dL_law_336 dL_law_337 dL_law_338 dL_law_339 ?_
  refine WP.callV (y := mX5_out) (d := 60) (mc := 0) (ms := 0) (As := [.int (gS G (i + 1))]) (st := []) dL_law_340 wm_L_31 mw_X5_out rfl (Nat.le_of_ble_eq_true rfl) rmL (rfl : SH[0]? = some (.inl 5)) (by decide) rfl (J_out hG (by decide) hV) (fun v S' h => ?_)
  obtain ⟨m1, rfl, r, rfl, h2⟩ := h
  show WP G _ _ _ _ _ 343 (lvL i) [.int r] (SH, TA t n j, m1)
  refine WP.aload_n 1 dL_law_343 rfl rfl ?_
  refine WP.sarg 1 (by decide) (by decide) hi hL dL_law_344 dL_law_345 dL_law_346 dL_law_347 dL_law_348 ?_
  refine WP.callV (y := mX6_out) (d := 60) (mc := 0) (ms := 0) (As := [.int (gS G (i + 1))]) (st := [.int r]) dL_law_349 wm_L_35 mw_X6_out rfl (Nat.le_of_ble_eq_true rfl) rmL (rfl : SH[75]? = some (.inl 6)) (by decide) rfl h2 (fun v S' h => ?_)
  obtain ⟨m2, rfl, rfl, h3⟩ := h
  show WP G _ _ _ _ _ 352 (lvL i) [.int r, .int r] (SH, TA t n j, m2)
  exact WP.icmp_eq (tgt := 1281) dL_law_352 (by decide) (fun _ => k _ _ _ _ h3) (fun c => absurd rfl c)
set_option maxHeartbeats 4000000 in
theorem lc_5 (hG : fl G = false) (hi : i + 6 ≤ gL G) (hL : gL G ≤ 3072) (hV : jV m) (k : ∀ t n j m, jV m → WP G room_1 (mL nm) (QL G) 89 3866 1281 (lvL i) [] (SH, TA t n j, m)) : WP G room_1 (mL nm) (QL G) 89 3866 357 (lvL i) [] (SH, TA t n j, m) := by
  refine WP.aload_n 2 dL_law_357 rfl rfl ?_
  refine WP.sarg 1 (by decide) (by decide) hi hL dL_law_358 dL_law_359 dL_law_360 dL_law_361 dL_law_362 ?_
  refine WP.sarg 2 (by decide) (by decide) hi hL dL_law_363 dL_law_364 dL_law_365 dL_law_366 dL_law_367 ?_
  refine WP.callV (y := mX5_back) (d := 60) (mc := 0) (ms := 0) (As := [.int (gS G (i + 1)), .int (gS G (i + 2))]) (st := []) dL_law_368 wm_L_36 mw_X5_back rfl (Nat.le_of_ble_eq_true rfl) rmL (rfl : SH[0]? = some (.inl 5)) (by decide) rfl (J_back hG (by decide) hV) (fun v S' h => ?_)
  obtain ⟨m1, rfl, r, rfl, h2⟩ := h
  show WP G _ _ _ _ _ 371 (lvL i) [.int r] (SH, TA t n j, m1)
  refine WP.aload_n 1 dL_law_371 rfl rfl ?_
  refine WP.sarg 1 (by decide) (by decide) hi hL dL_law_372 dL_law_373 dL_law_374 dL_law_375 dL_law_376 ?_
  refine WP.sarg 2 (by decide) (by decide) hi hL dL_law_377 dL_law_378 dL_law_379 dL_law_380 dL_law_381 ?_
  refine WP.callV (y := mX6_back) (d := 60) (mc := 0) (ms := 0) (As := [.int (gS G (i + 1)), .int (gS G (i + 2))]) (st := [.int r]) dL_law_382 wm_L_39 mw_X6_back rfl (Nat.le_of_ble_eq_true rfl) rmL (rfl : SH[75]? = some (.inl 6)) (by decide) rfl h2 (fun v S' h => ?_)
  obtain ⟨m2, rfl, rfl, h3⟩ := h
  show WP G _ _ _ _ _ 385 (lvL i) [.int r, .int r] (SH, TA t n j, m2)
  exact WP.icmp_eq (tgt := 1281) dL_law_385 (by decide) (fun _ => k _ _ _ _ h3) (fun c => absurd rfl c)
set_option maxHeartbeats 4000000 in
theorem lc_6 (hG : fl G = false) (hi : i + 6 ≤ gL G) (hL : gL G ≤ 3072) (hV : jV m) (k : ∀ t n j m, jV m → WP G room_1 (mL nm) (QL G) 89 3866 1281 (lvL i) [] (SH, TA t n j, m)) : WP G room_1 (mL nm) (QL G) 89 3866 390 (lvL i) [] (SH, TA t n j, m) := by
  refine WP.aload_n 2 dL_law_390 rfl rfl ?_
  refine WP.sarg 1 (by decide) (by decide) hi hL dL_law_391 dL_law_392 dL_law_393 dL_law_394 dL_law_395 ?_
  refine WP.sarg 2 (by decide) (by decide) hi hL dL_law_396 dL_law_397 dL_law_398 dL_law_399 dL_law_400 ?_
  refine WP.callV (y := mX5_spring) (d := 60) (mc := 0) (ms := 0) (As := [.int (gS G (i + 1)), .int (gS G (i + 2))]) (st := []) dL_law_401 wm_L_40 mw_X5_spring rfl (Nat.le_of_ble_eq_true rfl) rmL (rfl : SH[0]? = some (.inl 5)) (by decide) rfl (J_spring hG (by decide) hV) (fun v S' h => ?_)
  obtain ⟨m1, rfl, r, rfl, h2⟩ := h
  show WP G _ _ _ _ _ 404 (lvL i) [.int r] (SH, TA t n j, m1)
  refine WP.aload_n 1 dL_law_404 rfl rfl ?_
  refine WP.sarg 1 (by decide) (by decide) hi hL dL_law_405 dL_law_406 dL_law_407 dL_law_408 dL_law_409 ?_
  refine WP.sarg 2 (by decide) (by decide) hi hL dL_law_410 dL_law_411 dL_law_412 dL_law_413 dL_law_414 ?_
  refine WP.callV (y := mX6_spring) (d := 60) (mc := 0) (ms := 0) (As := [.int (gS G (i + 1)), .int (gS G (i + 2))]) (st := [.int r]) dL_law_415 wm_L_43 mw_X6_spring rfl (Nat.le_of_ble_eq_true rfl) rmL (rfl : SH[75]? = some (.inl 6)) (by decide) rfl h2 (fun v S' h => ?_)
  obtain ⟨m2, rfl, rfl, h3⟩ := h
  show WP G _ _ _ _ _ 418 (lvL i) [.int r, .int r] (SH, TA t n j, m2)
  exact WP.icmp_eq (tgt := 1281) dL_law_418 (by decide) (fun _ => k _ _ _ _ h3) (fun c => absurd rfl c)
set_option maxHeartbeats 4000000 in
theorem lc_7 (hG : fl G = false) (hi : i + 6 ≤ gL G) (hL : gL G ≤ 3072) (hV : jV m) (k : ∀ t n j m, jV m → WP G room_1 (mL nm) (QL G) 89 3866 1281 (lvL i) [] (SH, TA t n j, m)) : WP G room_1 (mL nm) (QL G) 89 3866 423 (lvL i) [] (SH, TA t n j, m) := by
  refine WP.aload_n 2 dL_law_423 rfl rfl ?_
  refine WP.callV (y := mX5_wind) (d := 60) (mc := 0) (ms := 0) (As := []) (st := []) dL_law_424 wm_L_44 mw_X5_wind rfl (Nat.le_of_ble_eq_true rfl) rmL (rfl : SH[0]? = some (.inl 5)) (by decide) rfl (J_wind hG (by decide) hV) (fun v S' h => ?_)
  obtain ⟨m1, rfl, r, rfl, h2⟩ := h
  show WP G _ _ _ _ _ 427 (lvL i) [.int r] (SH, TA t n j, m1)
  refine WP.aload_n 1 dL_law_427 rfl rfl ?_
  refine WP.callV (y := mX6_wind) (d := 60) (mc := 0) (ms := 0) (As := []) (st := [.int r]) dL_law_428 wm_L_48 mw_X6_wind rfl (Nat.le_of_ble_eq_true rfl) rmL (rfl : SH[75]? = some (.inl 6)) (by decide) rfl h2 (fun v S' h => ?_)
  obtain ⟨m2, rfl, rfl, h3⟩ := h
  show WP G _ _ _ _ _ 431 (lvL i) [.int r, .int r] (SH, TA t n j, m2)
  exact WP.icmp_eq (tgt := 1281) dL_law_431 (by decide) (fun _ => k _ _ _ _ h3) (fun c => absurd rfl c)
set_option maxHeartbeats 4000000 in
theorem lc_8 (hG : fl G = false) (hi : i + 6 ≤ gL G) (hL : gL G ≤ 3072) (hV : jV m) (k : ∀ t n j m, jV m → WP G room_1 (mL nm) (QL G) 89 3866 1281 (lvL i) [] (SH, TA t n j, m)) : WP G room_1 (mL nm) (QL G) 89 3866 436 (lvL i) [] (SH, TA t n j, m) := by
  refine WP.aload_n 2 dL_law_436 rfl rfl ?_
  refine WP.sarg 1 (by decide) (by decide) hi hL dL_law_437 dL_law_438 dL_law_439 dL_law_440 dL_law_441 ?_
  refine WP.sarg 2 (by decide) (by decide) hi hL dL_law_442 dL_law_443 dL_law_444 dL_law_445 dL_law_446 ?_
  refine WP.callV (y := mX5_cellIs) (d := 60) (mc := 0) (ms := 0) (As := [.int (gS G (i + 1)), .int (gS G (i + 2))]) (st := []) dL_law_447 wm_L_49 mw_X5_cellIs rfl (Nat.le_of_ble_eq_true rfl) rmL (rfl : SH[0]? = some (.inl 5)) (by decide) rfl (J_cellIs hG (by decide) hV) (fun v S' h => ?_)
  obtain ⟨m1, rfl, r, rfl, h2⟩ := h
  show WP G _ _ _ _ _ 450 (lvL i) [.int r] (SH, TA t n j, m1)
  refine WP.aload_n 1 dL_law_450 rfl rfl ?_
  refine WP.sarg 1 (by decide) (by decide) hi hL dL_law_451 dL_law_452 dL_law_453 dL_law_454 dL_law_455 ?_
  refine WP.sarg 2 (by decide) (by decide) hi hL dL_law_456 dL_law_457 dL_law_458 dL_law_459 dL_law_460 ?_
  refine WP.callV (y := mX6_cellIs) (d := 60) (mc := 0) (ms := 0) (As := [.int (gS G (i + 1)), .int (gS G (i + 2))]) (st := [.int r]) dL_law_461 wm_L_52 mw_X6_cellIs rfl (Nat.le_of_ble_eq_true rfl) rmL (rfl : SH[75]? = some (.inl 6)) (by decide) rfl h2 (fun v S' h => ?_)
  obtain ⟨m2, rfl, rfl, h3⟩ := h
  show WP G _ _ _ _ _ 464 (lvL i) [.int r, .int r] (SH, TA t n j, m2)
  exact WP.icmp_eq (tgt := 1281) dL_law_464 (by decide) (fun _ => k _ _ _ _ h3) (fun c => absurd rfl c)
set_option maxHeartbeats 4000000 in
theorem lc_9 (hG : fl G = false) (hi : i + 6 ≤ gL G) (hL : gL G ≤ 3072) (hV : jV m) (k : ∀ t n j m, jV m → WP G room_1 (mL nm) (QL G) 89 3866 1281 (lvL i) [] (SH, TA t n j, m)) : WP G room_1 (mL nm) (QL G) 89 3866 469 (lvL i) [] (SH, TA t n j, m) := by
  refine WP.aload_n 2 dL_law_469 rfl rfl ?_
  refine WP.sarg 1 (by decide) (by decide) hi hL dL_law_470 dL_law_471 dL_law_472 dL_law_473 dL_law_474 ?_
  refine WP.i2l dL_law_475 ?_
  refine WP.bipush (v := 32) dL_law_476 rfl ?_
  refine WP.lshl dL_law_478 ?_
  refine WP.sarg 2 (by decide) (by decide) hi hL dL_law_479 dL_law_480 dL_law_481 dL_law_482 dL_law_483 ?_
  refine WP.i2l dL_law_484 ?_
  refine WP.ldc2 wx_L_53 dL_law_485 ?_
  refine WP.land dL_law_488 ?_
  refine WP.lor dL_law_489 ?_
  refine WP.sarg 3 (by decide) (by decide) hi hL dL_law_490 dL_law_491 dL_law_492 dL_law_493 dL_law_494 ?_
  refine WP.callV (y := mX5_feed) (d := 60) (mc := 0) (ms := 0) (As := [.long ((gS G (i + 1)).toInt64 <<< ((32 : Int32).toInt64 &&& 63) ||| (gS G (i + 2)).toInt64 &&& 4294967295), .int (gS G (i + 3))]) (st := []) dL_law_495 wm_L_55 mw_X5_feed rfl (Nat.le_of_ble_eq_true rfl) rmL (rfl : SH[0]? = some (.inl 5)) (by decide) rfl (J_feed hG (by decide) hV) (fun v S' h => ?_)
  obtain ⟨m1, rfl, r, rfl, h2⟩ := h
  show WP G _ _ _ _ _ 498 (lvL i) [.int r] (SH, TA t n j, m1)
  refine WP.aload_n 1 dL_law_498 rfl rfl ?_
  refine WP.sarg 1 (by decide) (by decide) hi hL dL_law_499 dL_law_500 dL_law_501 dL_law_502 dL_law_503 ?_
  refine WP.i2l dL_law_504 ?_
  refine WP.bipush (v := 32) dL_law_505 rfl ?_
  refine WP.lshl dL_law_507 ?_
  refine WP.sarg 2 (by decide) (by decide) hi hL dL_law_508 dL_law_509 dL_law_510 dL_law_511 dL_law_512 ?_
  refine WP.i2l dL_law_513 ?_
  refine WP.ldc2 wx_L_53 dL_law_514 ?_
  refine WP.land dL_law_517 ?_
  refine WP.lor dL_law_518 ?_
  refine WP.sarg 3 (by decide) (by decide) hi hL dL_law_519 dL_law_520 dL_law_521 dL_law_522 dL_law_523 ?_
  refine WP.callV (y := mX6_feed) (d := 60) (mc := 0) (ms := 0) (As := [.long ((gS G (i + 1)).toInt64 <<< ((32 : Int32).toInt64 &&& 63) ||| (gS G (i + 2)).toInt64 &&& 4294967295), .int (gS G (i + 3))]) (st := [.int r]) dL_law_524 wm_L_59 mw_X6_feed rfl (Nat.le_of_ble_eq_true rfl) rmL (rfl : SH[75]? = some (.inl 6)) (by decide) rfl h2 (fun v S' h => ?_)
  obtain ⟨m2, rfl, rfl, h3⟩ := h
  show WP G _ _ _ _ _ 527 (lvL i) [.int r, .int r] (SH, TA t n j, m2)
  exact WP.icmp_eq (tgt := 1281) dL_law_527 (by decide) (fun _ => k _ _ _ _ h3) (fun c => absurd rfl c)
set_option maxHeartbeats 4000000 in
theorem lc_10 (hG : fl G = false) (hi : i + 6 ≤ gL G) (hL : gL G ≤ 3072) (hV : jV m) (k : ∀ t n j m, jV m → WP G room_1 (mL nm) (QL G) 89 3866 1281 (lvL i) [] (SH, TA t n j, m)) : WP G room_1 (mL nm) (QL G) 89 3866 532 (lvL i) [] (SH, TA t n j, m) := by
  refine WP.aload_n 2 dL_law_532 rfl rfl ?_
  refine WP.sarg 1 (by decide) (by decide) hi hL dL_law_533 dL_law_534 dL_law_535 dL_law_536 dL_law_537 ?_
  refine WP.callV (y := mX5_text) (d := 60) (mc := 0) (ms := 0) (As := [.int (gS G (i + 1))]) (st := []) dL_law_538 wm_L_60 mw_X5_text rfl (Nat.le_of_ble_eq_true rfl) rmL (rfl : SH[0]? = some (.inl 5)) (by decide) rfl (J_text hG (by decide) hV) (fun v S' h => ?_)
  obtain ⟨t1, m1, rfl, r, rfl, t2, n2, j2, rfl, h2⟩ := h
  show WP G _ _ _ _ _ 541 (lvL i) [.int r] (SH, TA t2 n2 j2, m1)
  refine WP.aload_n 1 dL_law_541 rfl rfl ?_
  refine WP.sarg 1 (by decide) (by decide) hi hL dL_law_542 dL_law_543 dL_law_544 dL_law_545 dL_law_546 ?_
  refine WP.callV (y := mX6_text) (d := 60) (mc := 0) (ms := 0) (As := [.int (gS G (i + 1))]) (st := [.int r]) dL_law_547 wm_L_63 mw_X6_text rfl (Nat.le_of_ble_eq_true rfl) rmL (rfl : SH[75]? = some (.inl 6)) (by decide) rfl h2 (fun v S' h => ?_)
  obtain ⟨m2, rfl, rfl, h3⟩ := h
  show WP G _ _ _ _ _ 550 (lvL i) [.int r, .int r] (SH, TA t2 n2 j2, m2)
  exact WP.icmp_eq (tgt := 1281) dL_law_550 (by decide) (fun _ => k _ _ _ _ h3) (fun c => absurd rfl c)
set_option maxHeartbeats 4000000 in
theorem lc_11 (hG : fl G = false) (hi : i + 6 ≤ gL G) (hL : gL G ≤ 3072) (hV : jV m) (k : ∀ t n j m, jV m → WP G room_1 (mL nm) (QL G) 89 3866 1281 (lvL i) [] (SH, TA t n j, m)) : WP G room_1 (mL nm) (QL G) 89 3866 555 (lvL i) [] (SH, TA t n j, m) := by
  refine WP.aload_n 2 dL_law_555 rfl rfl ?_
  refine WP.sarg 1 (by decide) (by decide) hi hL dL_law_556 dL_law_557 dL_law_558 dL_law_559 dL_law_560 ?_
  refine WP.callV (y := mX5_untell) (d := 60) (mc := 0) (ms := 0) (As := [.int (gS G (i + 1))]) (st := []) dL_law_561 wm_L_64 mw_X5_untell rfl (Nat.le_of_ble_eq_true rfl) rmL (rfl : SH[0]? = some (.inl 5)) (by decide) rfl (J_untell hG (by decide) hV) (fun v S' h => ?_)
  obtain ⟨m1, rfl, r, rfl, h2⟩ := h
  show WP G _ _ _ _ _ 564 (lvL i) [.int r] (SH, TA t n j, m1)
  refine WP.aload_n 1 dL_law_564 rfl rfl ?_
  refine WP.sarg 1 (by decide) (by decide) hi hL dL_law_565 dL_law_566 dL_law_567 dL_law_568 dL_law_569 ?_
  refine WP.callV (y := mX6_untell) (d := 60) (mc := 0) (ms := 0) (As := [.int (gS G (i + 1))]) (st := [.int r]) dL_law_570 wm_L_67 mw_X6_untell rfl (Nat.le_of_ble_eq_true rfl) rmL (rfl : SH[75]? = some (.inl 6)) (by decide) rfl h2 (fun v S' h => ?_)
  obtain ⟨m2, rfl, rfl, h3⟩ := h
  show WP G _ _ _ _ _ 573 (lvL i) [.int r, .int r] (SH, TA t n j, m2)
  exact WP.icmp_eq (tgt := 1281) dL_law_573 (by decide) (fun _ => k _ _ _ _ h3) (fun c => absurd rfl c)
set_option maxHeartbeats 4000000 in
theorem lc_12 (hG : fl G = false) (hi : i + 6 ≤ gL G) (hL : gL G ≤ 3072) (hV : jV m) (k : ∀ t n j m, jV m → WP G room_1 (mL nm) (QL G) 89 3866 1281 (lvL i) [] (SH, TA t n j, m)) : WP G room_1 (mL nm) (QL G) 89 3866 578 (lvL i) [] (SH, TA t n j, m) := by
  refine WP.aload_n 2 dL_law_578 rfl rfl ?_
  refine WP.sarg 1 (by decide) (by decide) hi hL dL_law_579 dL_law_580 dL_law_581 dL_law_582 dL_law_583 ?_
  refine WP.callV (y := mX5_pull) (d := 60) (mc := 0) (ms := 0) (As := [.int (gS G (i + 1))]) (st := []) dL_law_584 wm_L_68 mw_X5_pull rfl (Nat.le_of_ble_eq_true rfl) rmL (rfl : SH[0]? = some (.inl 5)) (by decide) rfl (J_pull hG (by decide) hV) (fun v S' h => ?_)
  obtain ⟨m1, rfl, r, rfl, h2⟩ := h
  show WP G _ _ _ _ _ 587 (lvL i) [.int r] (SH, TA t n j, m1)
  refine WP.aload_n 1 dL_law_587 rfl rfl ?_
  refine WP.sarg 1 (by decide) (by decide) hi hL dL_law_588 dL_law_589 dL_law_590 dL_law_591 dL_law_592 ?_
  refine WP.callV (y := mX6_pull) (d := 60) (mc := 0) (ms := 0) (As := [.int (gS G (i + 1))]) (st := [.int r]) dL_law_593 wm_L_71 mw_X6_pull rfl (Nat.le_of_ble_eq_true rfl) rmL (rfl : SH[75]? = some (.inl 6)) (by decide) rfl h2 (fun v S' h => ?_)
  obtain ⟨m2, rfl, rfl, h3⟩ := h
  show WP G _ _ _ _ _ 596 (lvL i) [.int r, .int r] (SH, TA t n j, m2)
  exact WP.icmp_eq (tgt := 1281) dL_law_596 (by decide) (fun _ => k _ _ _ _ h3) (fun c => absurd rfl c)
set_option maxHeartbeats 4000000 in
theorem lc_13 (hG : fl G = false) (hi : i + 6 ≤ gL G) (hL : gL G ≤ 3072) (hV : jV m) (k : ∀ t n j m, jV m → WP G room_1 (mL nm) (QL G) 89 3866 1281 (lvL i) [] (SH, TA t n j, m)) : WP G room_1 (mL nm) (QL G) 89 3866 601 (lvL i) [] (SH, TA t n j, m) := by
  refine WP.aload_n 2 dL_law_601 rfl rfl ?_
  refine WP.sarg 1 (by decide) (by decide) hi hL dL_law_602 dL_law_603 dL_law_604 dL_law_605 dL_law_606 ?_
  refine WP.callV (y := mX5_pulls) (d := 60) (mc := 0) (ms := 0) (As := [.int (gS G (i + 1))]) (st := []) dL_law_607 wm_L_72 mw_X5_pulls rfl (Nat.le_of_ble_eq_true rfl) rmL (rfl : SH[0]? = some (.inl 5)) (by decide) rfl (J_pulls hG (by decide) hV) (fun v S' h => ?_)
  obtain ⟨m1, rfl, r, rfl, h2⟩ := h
  show WP G _ _ _ _ _ 610 (lvL i) [.int r] (SH, TA t n j, m1)
  refine WP.aload_n 1 dL_law_610 rfl rfl ?_
  refine WP.sarg 1 (by decide) (by decide) hi hL dL_law_611 dL_law_612 dL_law_613 dL_law_614 dL_law_615 ?_
  refine WP.callV (y := mX6_pulls) (d := 60) (mc := 0) (ms := 0) (As := [.int (gS G (i + 1))]) (st := [.int r]) dL_law_616 wm_L_75 mw_X6_pulls rfl (Nat.le_of_ble_eq_true rfl) rmL (rfl : SH[75]? = some (.inl 6)) (by decide) rfl h2 (fun v S' h => ?_)
  obtain ⟨m2, rfl, rfl, h3⟩ := h
  show WP G _ _ _ _ _ 619 (lvL i) [.int r, .int r] (SH, TA t n j, m2)
  exact WP.icmp_eq (tgt := 1281) dL_law_619 (by decide) (fun _ => k _ _ _ _ h3) (fun c => absurd rfl c)
set_option maxHeartbeats 4000000 in
theorem lc_14 (hG : fl G = false) (hi : i + 6 ≤ gL G) (hL : gL G ≤ 3072) (hV : jV m) (k : ∀ t n j m, jV m → WP G room_1 (mL nm) (QL G) 89 3866 1281 (lvL i) [] (SH, TA t n j, m)) : WP G room_1 (mL nm) (QL G) 89 3866 624 (lvL i) [] (SH, TA t n j, m) := by
  refine WP.aload_n 2 dL_law_624 rfl rfl ?_
  refine WP.sarg 1 (by decide) (by decide) hi hL dL_law_625 dL_law_626 dL_law_627 dL_law_628 dL_law_629 ?_
  refine WP.callV (y := mX5_draws) (d := 60) (mc := 0) (ms := 0) (As := [.int (gS G (i + 1))]) (st := []) dL_law_630 wm_L_76 mw_X5_draws rfl (Nat.le_of_ble_eq_true rfl) rmL (rfl : SH[0]? = some (.inl 5)) (by decide) rfl (J_draws hG (by decide) hV) (fun v S' h => ?_)
  obtain ⟨m1, rfl, r, rfl, h2⟩ := h
  show WP G _ _ _ _ _ 633 (lvL i) [.int r] (SH, TA t n j, m1)
  refine WP.aload_n 1 dL_law_633 rfl rfl ?_
  refine WP.sarg 1 (by decide) (by decide) hi hL dL_law_634 dL_law_635 dL_law_636 dL_law_637 dL_law_638 ?_
  refine WP.callV (y := mX6_draws) (d := 60) (mc := 0) (ms := 0) (As := [.int (gS G (i + 1))]) (st := [.int r]) dL_law_639 wm_L_79 mw_X6_draws rfl (Nat.le_of_ble_eq_true rfl) rmL (rfl : SH[75]? = some (.inl 6)) (by decide) rfl h2 (fun v S' h => ?_)
  obtain ⟨m2, rfl, rfl, h3⟩ := h
  show WP G _ _ _ _ _ 642 (lvL i) [.int r, .int r] (SH, TA t n j, m2)
  exact WP.icmp_eq (tgt := 1281) dL_law_642 (by decide) (fun _ => k _ _ _ _ h3) (fun c => absurd rfl c)
set_option maxHeartbeats 4000000 in
theorem lc_15 (hG : fl G = false) (hi : i + 6 ≤ gL G) (hL : gL G ≤ 3072) (hV : jV m) (k : ∀ t n j m, jV m → WP G room_1 (mL nm) (QL G) 89 3866 1281 (lvL i) [] (SH, TA t n j, m)) : WP G room_1 (mL nm) (QL G) 89 3866 647 (lvL i) [] (SH, TA t n j, m) := by
  refine WP.aload_n 2 dL_law_647 rfl rfl ?_
  refine WP.sarg 1 (by decide) (by decide) hi hL dL_law_648 dL_law_649 dL_law_650 dL_law_651 dL_law_652 ?_
  refine WP.callV (y := mX5_seed) (d := 60) (mc := 0) (ms := 0) (As := [.int (gS G (i + 1))]) (st := []) dL_law_653 wm_L_80 mw_X5_seed rfl (Nat.le_of_ble_eq_true rfl) rmL (rfl : SH[0]? = some (.inl 5)) (by decide) rfl (J_seed hG (by decide) hV) (fun v S' h => ?_)
  obtain ⟨m1, rfl, r, rfl, h2⟩ := h
  show WP G _ _ _ _ _ 656 (lvL i) [.int r] (SH, TA t n j, m1)
  refine WP.aload_n 1 dL_law_656 rfl rfl ?_
  refine WP.sarg 1 (by decide) (by decide) hi hL dL_law_657 dL_law_658 dL_law_659 dL_law_660 dL_law_661 ?_
  refine WP.callV (y := mX6_seed) (d := 60) (mc := 0) (ms := 0) (As := [.int (gS G (i + 1))]) (st := [.int r]) dL_law_662 wm_L_83 mw_X6_seed rfl (Nat.le_of_ble_eq_true rfl) rmL (rfl : SH[75]? = some (.inl 6)) (by decide) rfl h2 (fun v S' h => ?_)
  obtain ⟨m2, rfl, rfl, h3⟩ := h
  show WP G _ _ _ _ _ 665 (lvL i) [.int r, .int r] (SH, TA t n j, m2)
  exact WP.icmp_eq (tgt := 1281) dL_law_665 (by decide) (fun _ => k _ _ _ _ h3) (fun c => absurd rfl c)
set_option maxHeartbeats 4000000 in
theorem lc_16 (hG : fl G = false) (hi : i + 6 ≤ gL G) (hL : gL G ≤ 3072) (hV : jV m) (k : ∀ t n j m, jV m → WP G room_1 (mL nm) (QL G) 89 3866 1281 (lvL i) [] (SH, TA t n j, m)) : WP G room_1 (mL nm) (QL G) 89 3866 670 (lvL i) [] (SH, TA t n j, m) := by
  refine WP.aload_n 2 dL_law_670 rfl rfl ?_
  refine WP.sarg 1 (by decide) (by decide) hi hL dL_law_671 dL_law_672 dL_law_673 dL_law_674 dL_law_675 ?_
  refine WP.sarg 2 (by decide) (by decide) hi hL dL_law_676 dL_law_677 dL_law_678 dL_law_679 dL_law_680 ?_
  refine WP.sarg 3 (by decide) (by decide) hi hL dL_law_681 dL_law_682 dL_law_683 dL_law_684 dL_law_685 ?_
  refine WP.callV (y := mX5_fewest) (d := 60) (mc := 0) (ms := 0) (As := [.int (gS G (i + 1)), .int (gS G (i + 2)), .int (gS G (i + 3))]) (st := []) dL_law_686 wm_L_84 mw_X5_fewest rfl (Nat.le_of_ble_eq_true rfl) rmL (rfl : SH[0]? = some (.inl 5)) (by decide) rfl (J_fewest hG (by decide) hV) (fun v S' h => ?_)
  obtain ⟨m1, rfl, r, rfl, h2⟩ := h
  show WP G _ _ _ _ _ 689 (lvL i) [.int r] (SH, TA t n j, m1)
  refine WP.aload_n 1 dL_law_689 rfl rfl ?_
  refine WP.sarg 1 (by decide) (by decide) hi hL dL_law_690 dL_law_691 dL_law_692 dL_law_693 dL_law_694 ?_
  refine WP.sarg 2 (by decide) (by decide) hi hL dL_law_695 dL_law_696 dL_law_697 dL_law_698 dL_law_699 ?_
  refine WP.sarg 3 (by decide) (by decide) hi hL dL_law_700 dL_law_701 dL_law_702 dL_law_703 dL_law_704 ?_
  refine WP.callV (y := mX6_fewest) (d := 60) (mc := 0) (ms := 0) (As := [.int (gS G (i + 1)), .int (gS G (i + 2)), .int (gS G (i + 3))]) (st := [.int r]) dL_law_705 wm_L_87 mw_X6_fewest rfl (Nat.le_of_ble_eq_true rfl) rmL (rfl : SH[75]? = some (.inl 6)) (by decide) rfl h2 (fun v S' h => ?_)
  obtain ⟨m2, rfl, rfl, h3⟩ := h
  show WP G _ _ _ _ _ 708 (lvL i) [.int r, .int r] (SH, TA t n j, m2)
  exact WP.icmp_eq (tgt := 1281) dL_law_708 (by decide) (fun _ => k _ _ _ _ h3) (fun c => absurd rfl c)
set_option maxHeartbeats 4000000 in
theorem lc_17 (hG : fl G = false) (hi : i + 6 ≤ gL G) (hL : gL G ≤ 3072) (hV : jV m) (k : ∀ t n j m, jV m → WP G room_1 (mL nm) (QL G) 89 3866 1281 (lvL i) [] (SH, TA t n j, m)) : WP G room_1 (mL nm) (QL G) 89 3866 713 (lvL i) [] (SH, TA t n j, m) := by
  refine WP.aload_n 2 dL_law_713 rfl rfl ?_
  refine WP.sarg 1 (by decide) (by decide) hi hL dL_law_714 dL_law_715 dL_law_716 dL_law_717 dL_law_718 ?_
  refine WP.sarg 2 (by decide) (by decide) hi hL dL_law_719 dL_law_720 dL_law_721 dL_law_722 dL_law_723 ?_
  refine WP.callV (y := mX5_game) (d := 60) (mc := 0) (ms := 0) (As := [.int (gS G (i + 1)), .int (gS G (i + 2))]) (st := []) dL_law_724 wm_L_88 mw_X5_game rfl (Nat.le_of_ble_eq_true rfl) rmL (rfl : SH[0]? = some (.inl 5)) (by decide) rfl (J_game hG (by decide) hV) (fun v S' h => ?_)
  obtain ⟨m1, rfl, r, rfl, h2⟩ := h
  show WP G _ _ _ _ _ 727 (lvL i) [.int r] (SH, TA t n j, m1)
  refine WP.aload_n 1 dL_law_727 rfl rfl ?_
  refine WP.sarg 1 (by decide) (by decide) hi hL dL_law_728 dL_law_729 dL_law_730 dL_law_731 dL_law_732 ?_
  refine WP.sarg 2 (by decide) (by decide) hi hL dL_law_733 dL_law_734 dL_law_735 dL_law_736 dL_law_737 ?_
  refine WP.callV (y := mX6_game) (d := 60) (mc := 0) (ms := 0) (As := [.int (gS G (i + 1)), .int (gS G (i + 2))]) (st := [.int r]) dL_law_738 wm_L_91 mw_X6_game rfl (Nat.le_of_ble_eq_true rfl) rmL (rfl : SH[75]? = some (.inl 6)) (by decide) rfl h2 (fun v S' h => ?_)
  obtain ⟨m2, rfl, rfl, h3⟩ := h
  show WP G _ _ _ _ _ 741 (lvL i) [.int r, .int r] (SH, TA t n j, m2)
  exact WP.icmp_eq (tgt := 1281) dL_law_741 (by decide) (fun _ => k _ _ _ _ h3) (fun c => absurd rfl c)
set_option maxHeartbeats 4000000 in
theorem lc_18 (hG : fl G = false) (hi : i + 6 ≤ gL G) (hL : gL G ≤ 3072) (hV : jV m) (k : ∀ t n j m, jV m → WP G room_1 (mL nm) (QL G) 89 3866 1281 (lvL i) [] (SH, TA t n j, m)) : WP G room_1 (mL nm) (QL G) 89 3866 746 (lvL i) [] (SH, TA t n j, m) := by
  refine WP.aload_n 2 dL_law_746 rfl rfl ?_
  refine WP.sarg 1 (by decide) (by decide) hi hL dL_law_747 dL_law_748 dL_law_749 dL_law_750 dL_law_751 ?_
  refine WP.callV (y := mX5_haul) (d := 60) (mc := 0) (ms := 0) (As := [.int (gS G (i + 1))]) (st := []) dL_law_752 wm_L_92 mw_X5_haul rfl (Nat.le_of_ble_eq_true rfl) rmL (rfl : SH[0]? = some (.inl 5)) (by decide) rfl (J_haul hG (by decide) hV) (fun v S' h => ?_)
  obtain ⟨m1, rfl, r, rfl, h2⟩ := h
  show WP G _ _ _ _ _ 755 (lvL i) [.int r] (SH, TA t n j, m1)
  refine WP.aload_n 1 dL_law_755 rfl rfl ?_
  refine WP.sarg 1 (by decide) (by decide) hi hL dL_law_756 dL_law_757 dL_law_758 dL_law_759 dL_law_760 ?_
  refine WP.callV (y := mX6_haul) (d := 60) (mc := 0) (ms := 0) (As := [.int (gS G (i + 1))]) (st := [.int r]) dL_law_761 wm_L_95 mw_X6_haul rfl (Nat.le_of_ble_eq_true rfl) rmL (rfl : SH[75]? = some (.inl 6)) (by decide) rfl h2 (fun v S' h => ?_)
  obtain ⟨m2, rfl, rfl, h3⟩ := h
  show WP G _ _ _ _ _ 764 (lvL i) [.int r, .int r] (SH, TA t n j, m2)
  exact WP.icmp_eq (tgt := 1281) dL_law_764 (by decide) (fun _ => k _ _ _ _ h3) (fun c => absurd rfl c)
set_option maxHeartbeats 4000000 in
theorem lc_19 (hG : fl G = false) (hi : i + 6 ≤ gL G) (hL : gL G ≤ 3072) (hV : jV m) (k : ∀ t n j m, jV m → WP G room_1 (mL nm) (QL G) 89 3866 1281 (lvL i) [] (SH, TA t n j, m)) : WP G room_1 (mL nm) (QL G) 89 3866 769 (lvL i) [] (SH, TA t n j, m) := by
  refine WP.aload_n 2 dL_law_769 rfl rfl ?_
  refine WP.sarg 1 (by decide) (by decide) hi hL dL_law_770 dL_law_771 dL_law_772 dL_law_773 dL_law_774 ?_
  refine WP.callV (y := mX5_changed) (d := 60) (mc := 0) (ms := 0) (As := [.int (gS G (i + 1))]) (st := []) dL_law_775 wm_L_96 mw_X5_changed rfl (Nat.le_of_ble_eq_true rfl) rmL (rfl : SH[0]? = some (.inl 5)) (by decide) rfl (J_changed hG (by decide) hV) (fun v S' h => ?_)
  obtain ⟨m1, rfl, r, rfl, h2⟩ := h
  show WP G _ _ _ _ _ 778 (lvL i) [.int r] (SH, TA t n j, m1)
  refine WP.aload_n 1 dL_law_778 rfl rfl ?_
  refine WP.sarg 1 (by decide) (by decide) hi hL dL_law_779 dL_law_780 dL_law_781 dL_law_782 dL_law_783 ?_
  refine WP.callV (y := mX6_changed) (d := 60) (mc := 0) (ms := 0) (As := [.int (gS G (i + 1))]) (st := [.int r]) dL_law_784 wm_L_99 mw_X6_changed rfl (Nat.le_of_ble_eq_true rfl) rmL (rfl : SH[75]? = some (.inl 6)) (by decide) rfl h2 (fun v S' h => ?_)
  obtain ⟨m2, rfl, rfl, h3⟩ := h
  show WP G _ _ _ _ _ 787 (lvL i) [.int r, .int r] (SH, TA t n j, m2)
  exact WP.icmp_eq (tgt := 1281) dL_law_787 (by decide) (fun _ => k _ _ _ _ h3) (fun c => absurd rfl c)
set_option maxHeartbeats 4000000 in
theorem lc_20 (hG : fl G = false) (hi : i + 6 ≤ gL G) (hL : gL G ≤ 3072) (hV : jV m) (k : ∀ t n j m, jV m → WP G room_1 (mL nm) (QL G) 89 3866 1281 (lvL i) [] (SH, TA t n j, m)) : WP G room_1 (mL nm) (QL G) 89 3866 792 (lvL i) [] (SH, TA t n j, m) := by
  refine WP.aload_n 2 dL_law_792 rfl rfl ?_
  refine WP.sarg 1 (by decide) (by decide) hi hL dL_law_793 dL_law_794 dL_law_795 dL_law_796 dL_law_797 ?_
  refine WP.sarg 2 (by decide) (by decide) hi hL dL_law_798 dL_law_799 dL_law_800 dL_law_801 dL_law_802 ?_
  refine WP.callV (y := mX5_springs) (d := 60) (mc := 0) (ms := 0) (As := [.int (gS G (i + 1)), .int (gS G (i + 2))]) (st := []) dL_law_803 wm_L_100 mw_X5_springs rfl (Nat.le_of_ble_eq_true rfl) rmL (rfl : SH[0]? = some (.inl 5)) (by decide) rfl (J_springs hG (by decide) hV) (fun v S' h => ?_)
  obtain ⟨m1, rfl, r, rfl, h2⟩ := h
  show WP G _ _ _ _ _ 806 (lvL i) [.int r] (SH, TA t n j, m1)
  refine WP.aload_n 1 dL_law_806 rfl rfl ?_
  refine WP.sarg 1 (by decide) (by decide) hi hL dL_law_807 dL_law_808 dL_law_809 dL_law_810 dL_law_811 ?_
  refine WP.sarg 2 (by decide) (by decide) hi hL dL_law_812 dL_law_813 dL_law_814 dL_law_815 dL_law_816 ?_
  refine WP.callV (y := mX6_springs) (d := 60) (mc := 0) (ms := 0) (As := [.int (gS G (i + 1)), .int (gS G (i + 2))]) (st := [.int r]) dL_law_817 wm_L_103 mw_X6_springs rfl (Nat.le_of_ble_eq_true rfl) rmL (rfl : SH[75]? = some (.inl 6)) (by decide) rfl h2 (fun v S' h => ?_)
  obtain ⟨m2, rfl, rfl, h3⟩ := h
  show WP G _ _ _ _ _ 820 (lvL i) [.int r, .int r] (SH, TA t n j, m2)
  exact WP.icmp_eq (tgt := 1281) dL_law_820 (by decide) (fun _ => k _ _ _ _ h3) (fun c => absurd rfl c)
set_option maxHeartbeats 4000000 in
theorem lc_21 (hG : fl G = false) (hi : i + 6 ≤ gL G) (hL : gL G ≤ 3072) (hV : jV m) (k : ∀ t n j m, jV m → WP G room_1 (mL nm) (QL G) 89 3866 1281 (lvL i) [] (SH, TA t n j, m)) : WP G room_1 (mL nm) (QL G) 89 3866 825 (lvL i) [] (SH, TA t n j, m) := by
  refine WP.aload_n 2 dL_law_825 rfl rfl ?_
  refine WP.sarg 1 (by decide) (by decide) hi hL dL_law_826 dL_law_827 dL_law_828 dL_law_829 dL_law_830 ?_
  refine WP.sarg 2 (by decide) (by decide) hi hL dL_law_831 dL_law_832 dL_law_833 dL_law_834 dL_law_835 ?_
  refine WP.callV (y := mX5_odds) (d := 60) (mc := 0) (ms := 0) (As := [.int (gS G (i + 1)), .int (gS G (i + 2))]) (st := []) dL_law_836 wm_L_104 mw_X5_odds rfl (Nat.le_of_ble_eq_true rfl) rmL (rfl : SH[0]? = some (.inl 5)) (by decide) rfl (J_odds hG (by decide) hV) (fun v S' h => ?_)
  obtain ⟨m1, rfl, r, rfl, h2⟩ := h
  show WP G _ _ _ _ _ 839 (lvL i) [.long r] (SH, TA t n j, m1)
  refine WP.aload_n 1 dL_law_839 rfl rfl ?_
  refine WP.sarg 1 (by decide) (by decide) hi hL dL_law_840 dL_law_841 dL_law_842 dL_law_843 dL_law_844 ?_
  refine WP.sarg 2 (by decide) (by decide) hi hL dL_law_845 dL_law_846 dL_law_847 dL_law_848 dL_law_849 ?_
  refine WP.callV (y := mX6_odds) (d := 60) (mc := 0) (ms := 0) (As := [.int (gS G (i + 1)), .int (gS G (i + 2))]) (st := [.long r]) dL_law_850 wm_L_108 mw_X6_odds rfl (Nat.le_of_ble_eq_true rfl) rmL (rfl : SH[75]? = some (.inl 6)) (by decide) rfl h2 (fun v S' h => ?_)
  obtain ⟨m2, rfl, rfl, h3⟩ := h
  show WP G _ _ _ _ _ 853 (lvL i) [.long r, .long r] (SH, TA t n j, m2)
  refine WP.lcmp dL_law_853 ?_
  exact WP.if_eq (tgt := 1281) dL_law_854 (by decide) (fun _ => k _ _ _ _ h3) (fun c => absurd (cmp_rr r) c)
set_option maxHeartbeats 4000000 in
theorem lc_22 (hG : fl G = false) (hi : i + 6 ≤ gL G) (hL : gL G ≤ 3072) (hV : jV m) (k : ∀ t n j m, jV m → WP G room_1 (mL nm) (QL G) 89 3866 1281 (lvL i) [] (SH, TA t n j, m)) : WP G room_1 (mL nm) (QL G) 89 3866 859 (lvL i) [] (SH, TA t n j, m) := by
  refine WP.aload_n 2 dL_law_859 rfl rfl ?_
  refine WP.sarg 1 (by decide) (by decide) hi hL dL_law_860 dL_law_861 dL_law_862 dL_law_863 dL_law_864 ?_
  refine WP.sarg 2 (by decide) (by decide) hi hL dL_law_865 dL_law_866 dL_law_867 dL_law_868 dL_law_869 ?_
  refine WP.callV (y := mX5_seen) (d := 60) (mc := 0) (ms := 0) (As := [.int (gS G (i + 1)), .int (gS G (i + 2))]) (st := []) dL_law_870 wm_L_109 mw_X5_seen rfl (Nat.le_of_ble_eq_true rfl) rmL (rfl : SH[0]? = some (.inl 5)) (by decide) rfl (J_seen hG (by decide) hV) (fun v S' h => ?_)
  obtain ⟨m1, rfl, r, rfl, h2⟩ := h
  show WP G _ _ _ _ _ 873 (lvL i) [.int r] (SH, TA t n j, m1)
  refine WP.aload_n 1 dL_law_873 rfl rfl ?_
  refine WP.sarg 1 (by decide) (by decide) hi hL dL_law_874 dL_law_875 dL_law_876 dL_law_877 dL_law_878 ?_
  refine WP.sarg 2 (by decide) (by decide) hi hL dL_law_879 dL_law_880 dL_law_881 dL_law_882 dL_law_883 ?_
  refine WP.callV (y := mX6_seen) (d := 60) (mc := 0) (ms := 0) (As := [.int (gS G (i + 1)), .int (gS G (i + 2))]) (st := [.int r]) dL_law_884 wm_L_112 mw_X6_seen rfl (Nat.le_of_ble_eq_true rfl) rmL (rfl : SH[75]? = some (.inl 6)) (by decide) rfl h2 (fun v S' h => ?_)
  obtain ⟨m2, rfl, rfl, h3⟩ := h
  show WP G _ _ _ _ _ 887 (lvL i) [.int r, .int r] (SH, TA t n j, m2)
  exact WP.icmp_eq (tgt := 1281) dL_law_887 (by decide) (fun _ => k _ _ _ _ h3) (fun c => absurd rfl c)
set_option maxHeartbeats 4000000 in
theorem lc_23 (hG : fl G = false) (hi : i + 6 ≤ gL G) (hL : gL G ≤ 3072) (hV : jV m) (k : ∀ t n j m, jV m → WP G room_1 (mL nm) (QL G) 89 3866 1281 (lvL i) [] (SH, TA t n j, m)) : WP G room_1 (mL nm) (QL G) 89 3866 892 (lvL i) [] (SH, TA t n j, m) := by
  refine WP.aload_n 2 dL_law_892 rfl rfl ?_
  refine WP.sarg 1 (by decide) (by decide) hi hL dL_law_893 dL_law_894 dL_law_895 dL_law_896 dL_law_897 ?_
  refine WP.callV (y := mX5_fill) (d := 60) (mc := 0) (ms := 0) (As := [.int (gS G (i + 1))]) (st := []) dL_law_898 wm_L_113 mw_X5_fill rfl (Nat.le_of_ble_eq_true rfl) rmL (rfl : SH[0]? = some (.inl 5)) (by decide) rfl (J_fill hG (by decide) hV) (fun v S' h => ?_)
  obtain ⟨m1, rfl, r, rfl, h2⟩ := h
  show WP G _ _ _ _ _ 901 (lvL i) [.int r] (SH, TA t n j, m1)
  refine WP.aload_n 1 dL_law_901 rfl rfl ?_
  refine WP.sarg 1 (by decide) (by decide) hi hL dL_law_902 dL_law_903 dL_law_904 dL_law_905 dL_law_906 ?_
  refine WP.callV (y := mX6_fill) (d := 60) (mc := 0) (ms := 0) (As := [.int (gS G (i + 1))]) (st := [.int r]) dL_law_907 wm_L_116 mw_X6_fill rfl (Nat.le_of_ble_eq_true rfl) rmL (rfl : SH[75]? = some (.inl 6)) (by decide) rfl h2 (fun v S' h => ?_)
  obtain ⟨m2, rfl, rfl, h3⟩ := h
  show WP G _ _ _ _ _ 910 (lvL i) [.int r, .int r] (SH, TA t n j, m2)
  exact WP.icmp_eq (tgt := 1281) dL_law_910 (by decide) (fun _ => k _ _ _ _ h3) (fun c => absurd rfl c)
set_option maxHeartbeats 4000000 in
theorem lc_24 (hG : fl G = false) (hi : i + 6 ≤ gL G) (hL : gL G ≤ 3072) (hV : jV m) (k : ∀ t n j m, jV m → WP G room_1 (mL nm) (QL G) 89 3866 1281 (lvL i) [] (SH, TA t n j, m)) : WP G room_1 (mL nm) (QL G) 89 3866 915 (lvL i) [] (SH, TA t n j, m) := by
  refine WP.aload_n 2 dL_law_915 rfl rfl ?_
  refine WP.sarg 1 (by decide) (by decide) hi hL dL_law_916 dL_law_917 dL_law_918 dL_law_919 dL_law_920 ?_
  refine WP.sarg 2 (by decide) (by decide) hi hL dL_law_921 dL_law_922 dL_law_923 dL_law_924 dL_law_925 ?_
  refine WP.sarg 3 (by decide) (by decide) hi hL dL_law_926 dL_law_927 dL_law_928 dL_law_929 dL_law_930 ?_
  refine WP.callV (y := mX5_voice) (d := 60) (mc := 0) (ms := 0) (As := [.int (gS G (i + 1)), .int (gS G (i + 2)), .int (gS G (i + 3))]) (st := []) dL_law_931 wm_L_117 mw_X5_voice rfl (Nat.le_of_ble_eq_true rfl) rmL (rfl : SH[0]? = some (.inl 5)) (by decide) rfl (J_voice hG (by decide) hV) (fun v S' h => ?_)
  obtain ⟨m1, rfl, r, rfl, h2⟩ := h
  show WP G _ _ _ _ _ 934 (lvL i) [.int r] (SH, TA t n j, m1)
  refine WP.aload_n 1 dL_law_934 rfl rfl ?_
  refine WP.sarg 1 (by decide) (by decide) hi hL dL_law_935 dL_law_936 dL_law_937 dL_law_938 dL_law_939 ?_
  refine WP.sarg 2 (by decide) (by decide) hi hL dL_law_940 dL_law_941 dL_law_942 dL_law_943 dL_law_944 ?_
  refine WP.sarg 3 (by decide) (by decide) hi hL dL_law_945 dL_law_946 dL_law_947 dL_law_948 dL_law_949 ?_
  refine WP.callV (y := mX6_voice) (d := 60) (mc := 0) (ms := 0) (As := [.int (gS G (i + 1)), .int (gS G (i + 2)), .int (gS G (i + 3))]) (st := [.int r]) dL_law_950 wm_L_120 mw_X6_voice rfl (Nat.le_of_ble_eq_true rfl) rmL (rfl : SH[75]? = some (.inl 6)) (by decide) rfl h2 (fun v S' h => ?_)
  obtain ⟨m2, rfl, rfl, h3⟩ := h
  show WP G _ _ _ _ _ 953 (lvL i) [.int r, .int r] (SH, TA t n j, m2)
  exact WP.icmp_eq (tgt := 1281) dL_law_953 (by decide) (fun _ => k _ _ _ _ h3) (fun c => absurd rfl c)
set_option maxHeartbeats 4000000 in
theorem lc_25 (hG : fl G = false) (hi : i + 6 ≤ gL G) (hL : gL G ≤ 3072) (hV : jV m) (k : ∀ t n j m, jV m → WP G room_1 (mL nm) (QL G) 89 3866 1281 (lvL i) [] (SH, TA t n j, m)) : WP G room_1 (mL nm) (QL G) 89 3866 958 (lvL i) [] (SH, TA t n j, m) := by
  refine WP.aload_n 2 dL_law_958 rfl rfl ?_
  refine WP.sarg 1 (by decide) (by decide) hi hL dL_law_959 dL_law_960 dL_law_961 dL_law_962 dL_law_963 ?_
  refine WP.callV (y := mX5_body) (d := 60) (mc := 0) (ms := 0) (As := [.int (gS G (i + 1))]) (st := []) dL_law_964 wm_L_121 mw_X5_body rfl (Nat.le_of_ble_eq_true rfl) rmL (rfl : SH[0]? = some (.inl 5)) (by decide) rfl (J_body hG (by decide) hV) (fun v S' h => ?_)
  obtain ⟨m1, rfl, r, rfl, h2⟩ := h
  show WP G _ _ _ _ _ 967 (lvL i) [.int r] (SH, TA t n j, m1)
  refine WP.aload_n 1 dL_law_967 rfl rfl ?_
  refine WP.sarg 1 (by decide) (by decide) hi hL dL_law_968 dL_law_969 dL_law_970 dL_law_971 dL_law_972 ?_
  refine WP.callV (y := mX6_body) (d := 60) (mc := 0) (ms := 0) (As := [.int (gS G (i + 1))]) (st := [.int r]) dL_law_973 wm_L_124 mw_X6_body rfl (Nat.le_of_ble_eq_true rfl) rmL (rfl : SH[75]? = some (.inl 6)) (by decide) rfl h2 (fun v S' h => ?_)
  obtain ⟨m2, rfl, rfl, h3⟩ := h
  show WP G _ _ _ _ _ 976 (lvL i) [.int r, .int r] (SH, TA t n j, m2)
  exact WP.icmp_eq (tgt := 1281) dL_law_976 (by decide) (fun _ => k _ _ _ _ h3) (fun c => absurd rfl c)
set_option maxHeartbeats 4000000 in
theorem lc_26 (hG : fl G = false) (hi : i + 6 ≤ gL G) (hL : gL G ≤ 3072) (hV : jV m) (k : ∀ t n j m, jV m → WP G room_1 (mL nm) (QL G) 89 3866 1281 (lvL i) [] (SH, TA t n j, m)) : WP G room_1 (mL nm) (QL G) 89 3866 981 (lvL i) [] (SH, TA t n j, m) := by
  refine WP.aload_n 2 dL_law_981 rfl rfl ?_
  refine WP.sarg 1 (by decide) (by decide) hi hL dL_law_982 dL_law_983 dL_law_984 dL_law_985 dL_law_986 ?_
  refine WP.sarg 2 (by decide) (by decide) hi hL dL_law_987 dL_law_988 dL_law_989 dL_law_990 dL_law_991 ?_
  refine WP.sarg 3 (by decide) (by decide) hi hL dL_law_992 dL_law_993 dL_law_994 dL_law_995 dL_law_996 ?_
  refine WP.callV (y := mX5_sheet) (d := 60) (mc := 0) (ms := 0) (As := [.int (gS G (i + 1)), .int (gS G (i + 2)), .int (gS G (i + 3))]) (st := []) dL_law_997 wm_L_125 mw_X5_sheet rfl (Nat.le_of_ble_eq_true rfl) rmL (rfl : SH[0]? = some (.inl 5)) (by decide) rfl (J_sheet hG (by decide) hV) (fun v S' h => ?_)
  obtain ⟨m1, rfl, r, rfl, h2⟩ := h
  show WP G _ _ _ _ _ 1000 (lvL i) [.int r] (SH, TA t n j, m1)
  refine WP.aload_n 1 dL_law_1000 rfl rfl ?_
  refine WP.sarg 1 (by decide) (by decide) hi hL dL_law_1001 dL_law_1002 dL_law_1003 dL_law_1004 dL_law_1005 ?_
  refine WP.sarg 2 (by decide) (by decide) hi hL dL_law_1006 dL_law_1007 dL_law_1008 dL_law_1009 dL_law_1010 ?_
  refine WP.sarg 3 (by decide) (by decide) hi hL dL_law_1011 dL_law_1012 dL_law_1013 dL_law_1014 dL_law_1015 ?_
  refine WP.callV (y := mX6_sheet) (d := 60) (mc := 0) (ms := 0) (As := [.int (gS G (i + 1)), .int (gS G (i + 2)), .int (gS G (i + 3))]) (st := [.int r]) dL_law_1016 wm_L_128 mw_X6_sheet rfl (Nat.le_of_ble_eq_true rfl) rmL (rfl : SH[75]? = some (.inl 6)) (by decide) rfl h2 (fun v S' h => ?_)
  obtain ⟨m2, rfl, rfl, h3⟩ := h
  show WP G _ _ _ _ _ 1019 (lvL i) [.int r, .int r] (SH, TA t n j, m2)
  exact WP.icmp_eq (tgt := 1281) dL_law_1019 (by decide) (fun _ => k _ _ _ _ h3) (fun c => absurd rfl c)
set_option maxHeartbeats 4000000 in
theorem lc_27 (hG : fl G = false) (hi : i + 6 ≤ gL G) (hL : gL G ≤ 3072) (hV : jV m) (k : ∀ t n j m, jV m → WP G room_1 (mL nm) (QL G) 89 3866 1281 (lvL i) [] (SH, TA t n j, m)) : WP G room_1 (mL nm) (QL G) 89 3866 1024 (lvL i) [] (SH, TA t n j, m) := by
  refine WP.aload_n 2 dL_law_1024 rfl rfl ?_
  refine WP.sarg 1 (by decide) (by decide) hi hL dL_law_1025 dL_law_1026 dL_law_1027 dL_law_1028 dL_law_1029 ?_
  refine WP.sarg 2 (by decide) (by decide) hi hL dL_law_1030 dL_law_1031 dL_law_1032 dL_law_1033 dL_law_1034 ?_
  refine WP.sarg 3 (by decide) (by decide) hi hL dL_law_1035 dL_law_1036 dL_law_1037 dL_law_1038 dL_law_1039 ?_
  refine WP.callV (y := mX5_put) (d := 60) (mc := 0) (ms := 0) (As := [.int (gS G (i + 1)), .int (gS G (i + 2)), .int (gS G (i + 3))]) (st := []) dL_law_1040 wm_L_129 mw_X5_put rfl (Nat.le_of_ble_eq_true rfl) rmL (rfl : SH[0]? = some (.inl 5)) (by decide) rfl (J_put hG (by decide) hV) (fun v S' h => ?_)
  obtain ⟨m1, rfl, r, rfl, h2⟩ := h
  show WP G _ _ _ _ _ 1043 (lvL i) [.int r] (SH, TA t n j, m1)
  refine WP.aload_n 1 dL_law_1043 rfl rfl ?_
  refine WP.sarg 1 (by decide) (by decide) hi hL dL_law_1044 dL_law_1045 dL_law_1046 dL_law_1047 dL_law_1048 ?_
  refine WP.sarg 2 (by decide) (by decide) hi hL dL_law_1049 dL_law_1050 dL_law_1051 dL_law_1052 dL_law_1053 ?_
  refine WP.sarg 3 (by decide) (by decide) hi hL dL_law_1054 dL_law_1055 dL_law_1056 dL_law_1057 dL_law_1058 ?_
  refine WP.callV (y := mX6_put) (d := 60) (mc := 0) (ms := 0) (As := [.int (gS G (i + 1)), .int (gS G (i + 2)), .int (gS G (i + 3))]) (st := [.int r]) dL_law_1059 wm_L_132 mw_X6_put rfl (Nat.le_of_ble_eq_true rfl) rmL (rfl : SH[75]? = some (.inl 6)) (by decide) rfl h2 (fun v S' h => ?_)
  obtain ⟨m2, rfl, rfl, h3⟩ := h
  show WP G _ _ _ _ _ 1062 (lvL i) [.int r, .int r] (SH, TA t n j, m2)
  exact WP.icmp_eq (tgt := 1281) dL_law_1062 (by decide) (fun _ => k _ _ _ _ h3) (fun c => absurd rfl c)
set_option maxHeartbeats 4000000 in
theorem lc_28 (hG : fl G = false) (hi : i + 6 ≤ gL G) (hL : gL G ≤ 3072) (hV : jV m) (k : ∀ t n j m, jV m → WP G room_1 (mL nm) (QL G) 89 3866 1281 (lvL i) [] (SH, TA t n j, m)) : WP G room_1 (mL nm) (QL G) 89 3866 1067 (lvL i) [] (SH, TA t n j, m) := by
  refine WP.aload_n 2 dL_law_1067 rfl rfl ?_
  refine WP.sarg 1 (by decide) (by decide) hi hL dL_law_1068 dL_law_1069 dL_law_1070 dL_law_1071 dL_law_1072 ?_
  refine WP.sarg 2 (by decide) (by decide) hi hL dL_law_1073 dL_law_1074 dL_law_1075 dL_law_1076 dL_law_1077 ?_
  refine WP.sarg 3 (by decide) (by decide) hi hL dL_law_1078 dL_law_1079 dL_law_1080 dL_law_1081 dL_law_1082 ?_
  refine WP.sarg 4 (by decide) (by decide) hi hL dL_law_1083 dL_law_1084 dL_law_1085 dL_law_1086 dL_law_1087 ?_
  refine WP.sarg 5 (by decide) (by decide) hi hL dL_law_1088 dL_law_1089 dL_law_1090 dL_law_1091 dL_law_1092 ?_
  refine WP.callV (y := mX5_move) (d := 60) (mc := 0) (ms := 0) (As := [.int (gS G (i + 1)), .int (gS G (i + 2)), .int (gS G (i + 3)), .int (gS G (i + 4)), .int (gS G (i + 5))]) (st := []) dL_law_1093 wm_L_133 mw_X5_move rfl (Nat.le_of_ble_eq_true rfl) rmL (rfl : SH[0]? = some (.inl 5)) (by decide) rfl (J_move hG (by decide) hV) (fun v S' h => ?_)
  obtain ⟨m1, rfl, r, rfl, h2⟩ := h
  show WP G _ _ _ _ _ 1096 (lvL i) [.int r] (SH, TA t n j, m1)
  refine WP.aload_n 1 dL_law_1096 rfl rfl ?_
  refine WP.sarg 1 (by decide) (by decide) hi hL dL_law_1097 dL_law_1098 dL_law_1099 dL_law_1100 dL_law_1101 ?_
  refine WP.sarg 2 (by decide) (by decide) hi hL dL_law_1102 dL_law_1103 dL_law_1104 dL_law_1105 dL_law_1106 ?_
  refine WP.sarg 3 (by decide) (by decide) hi hL dL_law_1107 dL_law_1108 dL_law_1109 dL_law_1110 dL_law_1111 ?_
  refine WP.sarg 4 (by decide) (by decide) hi hL dL_law_1112 dL_law_1113 dL_law_1114 dL_law_1115 dL_law_1116 ?_
  refine WP.sarg 5 (by decide) (by decide) hi hL dL_law_1117 dL_law_1118 dL_law_1119 dL_law_1120 dL_law_1121 ?_
  refine WP.callV (y := mX6_move) (d := 60) (mc := 0) (ms := 0) (As := [.int (gS G (i + 1)), .int (gS G (i + 2)), .int (gS G (i + 3)), .int (gS G (i + 4)), .int (gS G (i + 5))]) (st := [.int r]) dL_law_1122 wm_L_137 mw_X6_move rfl (Nat.le_of_ble_eq_true rfl) rmL (rfl : SH[75]? = some (.inl 6)) (by decide) rfl h2 (fun v S' h => ?_)
  obtain ⟨m2, rfl, rfl, h3⟩ := h
  show WP G _ _ _ _ _ 1125 (lvL i) [.int r, .int r] (SH, TA t n j, m2)
  exact WP.icmp_eq (tgt := 1281) dL_law_1125 (by decide) (fun _ => k _ _ _ _ h3) (fun c => absurd rfl c)
set_option maxHeartbeats 4000000 in
theorem lc_29 (hG : fl G = false) (hi : i + 6 ≤ gL G) (hL : gL G ≤ 3072) (hV : jV m) (k : ∀ t n j m, jV m → WP G room_1 (mL nm) (QL G) 89 3866 1281 (lvL i) [] (SH, TA t n j, m)) : WP G room_1 (mL nm) (QL G) 89 3866 1130 (lvL i) [] (SH, TA t n j, m) := by
  refine WP.aload_n 2 dL_law_1130 rfl rfl ?_
  refine WP.sarg 1 (by decide) (by decide) hi hL dL_law_1131 dL_law_1132 dL_law_1133 dL_law_1134 dL_law_1135 ?_
  refine WP.sarg 2 (by decide) (by decide) hi hL dL_law_1136 dL_law_1137 dL_law_1138 dL_law_1139 dL_law_1140 ?_
  refine WP.callV (y := mX5_judge) (d := 60) (mc := 0) (ms := 0) (As := [.int (gS G (i + 1)), .int (gS G (i + 2))]) (st := []) dL_law_1141 wm_L_138 mw_X5_judge rfl (Nat.le_of_ble_eq_true rfl) rmL (rfl : SH[0]? = some (.inl 5)) (by decide) rfl (J_judge hG (by decide) hV) (fun v S' h => ?_)
  obtain ⟨m1, rfl, r, rfl, h2⟩ := h
  show WP G _ _ _ _ _ 1144 (lvL i) [.int r] (SH, TA t n j, m1)
  refine WP.aload_n 1 dL_law_1144 rfl rfl ?_
  refine WP.sarg 1 (by decide) (by decide) hi hL dL_law_1145 dL_law_1146 dL_law_1147 dL_law_1148 dL_law_1149 ?_
  refine WP.sarg 2 (by decide) (by decide) hi hL dL_law_1150 dL_law_1151 dL_law_1152 dL_law_1153 dL_law_1154 ?_
  refine WP.callV (y := mX6_judge) (d := 60) (mc := 0) (ms := 0) (As := [.int (gS G (i + 1)), .int (gS G (i + 2))]) (st := [.int r]) dL_law_1155 wm_L_141 mw_X6_judge rfl (Nat.le_of_ble_eq_true rfl) rmL (rfl : SH[75]? = some (.inl 6)) (by decide) rfl h2 (fun v S' h => ?_)
  obtain ⟨m2, rfl, rfl, h3⟩ := h
  show WP G _ _ _ _ _ 1158 (lvL i) [.int r, .int r] (SH, TA t n j, m2)
  exact WP.icmp_eq (tgt := 1281) dL_law_1158 (by decide) (fun _ => k _ _ _ _ h3) (fun c => absurd rfl c)
set_option maxHeartbeats 4000000 in
theorem lc_30 (hG : fl G = false) (hi : i + 6 ≤ gL G) (hL : gL G ≤ 3072) (hV : jV m) (k : ∀ t n j m, jV m → WP G room_1 (mL nm) (QL G) 89 3866 1281 (lvL i) [] (SH, TA t n j, m)) : WP G room_1 (mL nm) (QL G) 89 3866 1163 (lvL i) [] (SH, TA t n j, m) := by
  refine WP.aload_n 2 dL_law_1163 rfl rfl ?_
  refine WP.callV (y := mX5_image) (d := 60) (mc := 0) (ms := 0) (As := []) (st := []) dL_law_1164 wm_L_142 mw_X5_image rfl (Nat.le_of_ble_eq_true rfl) rmL (rfl : SH[0]? = some (.inl 5)) (by decide) rfl (J_image hG (by decide) hV) (fun v S' h => ?_)
  obtain ⟨m1, rfl, r, rfl, h2⟩ := h
  show WP G _ _ _ _ _ 1167 (lvL i) [.int r] (SH, TA t n j, m1)
  refine WP.aload_n 1 dL_law_1167 rfl rfl ?_
  refine WP.callV (y := mX6_image) (d := 60) (mc := 0) (ms := 0) (As := []) (st := [.int r]) dL_law_1168 wm_L_145 mw_X6_image rfl (Nat.le_of_ble_eq_true rfl) rmL (rfl : SH[75]? = some (.inl 6)) (by decide) rfl h2 (fun v S' h => ?_)
  obtain ⟨m2, rfl, rfl, h3⟩ := h
  show WP G _ _ _ _ _ 1171 (lvL i) [.int r, .int r] (SH, TA t n j, m2)
  exact WP.icmp_eq (tgt := 1281) dL_law_1171 (by decide) (fun _ => k _ _ _ _ h3) (fun c => absurd rfl c)
set_option maxHeartbeats 4000000 in
theorem lc_31 (hG : fl G = false) (hi : i + 6 ≤ gL G) (hL : gL G ≤ 3072) (hV : jV m) (k : ∀ t n j m, jV m → WP G room_1 (mL nm) (QL G) 89 3866 1281 (lvL i) [] (SH, TA t n j, m)) : WP G room_1 (mL nm) (QL G) 89 3866 1176 (lvL i) [] (SH, TA t n j, m) := by
  refine WP.aload_n 2 dL_law_1176 rfl rfl ?_
  refine WP.callV (y := mX5_restore) (d := 60) (mc := 0) (ms := 0) (As := []) (st := []) dL_law_1177 wm_L_146 mw_X5_restore rfl (Nat.le_of_ble_eq_true rfl) rmL (rfl : SH[0]? = some (.inl 5)) (by decide) rfl (J_restore hG (by decide) hV) (fun v S' h => ?_)
  obtain ⟨m1, rfl, r, rfl, h2⟩ := h
  show WP G _ _ _ _ _ 1180 (lvL i) [.int r] (SH, TA t n j, m1)
  refine WP.aload_n 1 dL_law_1180 rfl rfl ?_
  refine WP.callV (y := mX6_restore) (d := 60) (mc := 0) (ms := 0) (As := []) (st := [.int r]) dL_law_1181 wm_L_149 mw_X6_restore rfl (Nat.le_of_ble_eq_true rfl) rmL (rfl : SH[75]? = some (.inl 6)) (by decide) rfl h2 (fun v S' h => ?_)
  obtain ⟨m2, rfl, rfl, h3⟩ := h
  show WP G _ _ _ _ _ 1184 (lvL i) [.int r, .int r] (SH, TA t n j, m2)
  exact WP.icmp_eq (tgt := 1281) dL_law_1184 (by decide) (fun _ => k _ _ _ _ h3) (fun c => absurd rfl c)
set_option maxHeartbeats 4000000 in
theorem lc_32 (hG : fl G = false) (hi : i + 6 ≤ gL G) (hL : gL G ≤ 3072) (hV : jV m) (k : ∀ t n j m, jV m → WP G room_1 (mL nm) (QL G) 89 3866 1281 (lvL i) [] (SH, TA t n j, m)) : WP G room_1 (mL nm) (QL G) 89 3866 1189 (lvL i) [] (SH, TA t n j, m) := by
  refine WP.aload_n 2 dL_law_1189 rfl rfl ?_
  refine WP.sarg 1 (by decide) (by decide) hi hL dL_law_1190 dL_law_1191 dL_law_1192 dL_law_1193 dL_law_1194 ?_
  refine WP.callV (y := mX5_tell) (d := 60) (mc := 0) (ms := 0) (As := [.int (gS G (i + 1))]) (st := []) dL_law_1195 wm_L_150 mw_X5_tell rfl (Nat.le_of_ble_eq_true rfl) rmL (rfl : SH[0]? = some (.inl 5)) (by decide) rfl (J_tell hG (by decide) hV) (fun v S' h => ?_)
  obtain ⟨m1, rfl, r, rfl, h2⟩ := h
  show WP G _ _ _ _ _ 1198 (lvL i) [.int r] (SH, TA t n j, m1)
  refine WP.aload_n 1 dL_law_1198 rfl rfl ?_
  refine WP.sarg 1 (by decide) (by decide) hi hL dL_law_1199 dL_law_1200 dL_law_1201 dL_law_1202 dL_law_1203 ?_
  refine WP.callV (y := mX6_tell) (d := 60) (mc := 0) (ms := 0) (As := [.int (gS G (i + 1))]) (st := [.int r]) dL_law_1204 wm_L_153 mw_X6_tell rfl (Nat.le_of_ble_eq_true rfl) rmL (rfl : SH[75]? = some (.inl 6)) (by decide) rfl h2 (fun v S' h => ?_)
  obtain ⟨m2, rfl, rfl, h3⟩ := h
  show WP G _ _ _ _ _ 1207 (lvL i) [.int r, .int r] (SH, TA t n j, m2)
  exact WP.icmp_eq (tgt := 1281) dL_law_1207 (by decide) (fun _ => k _ _ _ _ h3) (fun c => absurd rfl c)
set_option maxHeartbeats 4000000 in
theorem lc_33 (hG : fl G = false) (hi : i + 6 ≤ gL G) (hL : gL G ≤ 3072) (hV : jV m) (k : ∀ t n j m, jV m → WP G room_1 (mL nm) (QL G) 89 3866 1281 (lvL i) [] (SH, TA t n j, m)) : WP G room_1 (mL nm) (QL G) 89 3866 1212 (lvL i) [] (SH, TA t n j, m) := by
  refine WP.aload_n 2 dL_law_1212 rfl rfl ?_
  refine WP.sarg 1 (by decide) (by decide) hi hL dL_law_1213 dL_law_1214 dL_law_1215 dL_law_1216 dL_law_1217 ?_
  refine WP.callV (y := mX5_check) (d := 60) (mc := 0) (ms := 0) (As := [.int (gS G (i + 1))]) (st := []) dL_law_1218 wm_L_154 mw_X5_check rfl (Nat.le_of_ble_eq_true rfl) rmL (rfl : SH[0]? = some (.inl 5)) (by decide) rfl (J_check hG (by decide) hV) (fun v S' h => ?_)
  obtain ⟨m1, rfl, r, rfl, h2⟩ := h
  show WP G _ _ _ _ _ 1221 (lvL i) [.int r] (SH, TA t n j, m1)
  refine WP.aload_n 1 dL_law_1221 rfl rfl ?_
  refine WP.sarg 1 (by decide) (by decide) hi hL dL_law_1222 dL_law_1223 dL_law_1224 dL_law_1225 dL_law_1226 ?_
  refine WP.callV (y := mX6_check) (d := 60) (mc := 0) (ms := 0) (As := [.int (gS G (i + 1))]) (st := [.int r]) dL_law_1227 wm_L_157 mw_X6_check rfl (Nat.le_of_ble_eq_true rfl) rmL (rfl : SH[75]? = some (.inl 6)) (by decide) rfl h2 (fun v S' h => ?_)
  obtain ⟨m2, rfl, rfl, h3⟩ := h
  show WP G _ _ _ _ _ 1230 (lvL i) [.int r, .int r] (SH, TA t n j, m2)
  exact WP.icmp_eq (tgt := 1281) dL_law_1230 (by decide) (fun _ => k _ _ _ _ h3) (fun c => absurd rfl c)
set_option maxHeartbeats 4000000 in
theorem lc_34 (hG : fl G = false) (hi : i + 6 ≤ gL G) (hL : gL G ≤ 3072) (hV : jV m) (k : ∀ t n j m, jV m → WP G room_1 (mL nm) (QL G) 89 3866 1281 (lvL i) [] (SH, TA t n j, m)) : WP G room_1 (mL nm) (QL G) 89 3866 1235 (lvL i) [] (SH, TA t n j, m) := by
  refine WP.aload_n 2 dL_law_1235 rfl rfl ?_
  refine WP.sarg 1 (by decide) (by decide) hi hL dL_law_1236 dL_law_1237 dL_law_1238 dL_law_1239 dL_law_1240 ?_
  refine WP.callV (y := mX5_count) (d := 60) (mc := 0) (ms := 0) (As := [.int (gS G (i + 1))]) (st := []) dL_law_1241 wm_L_158 mw_X5_count rfl (Nat.le_of_ble_eq_true rfl) rmL (rfl : SH[0]? = some (.inl 5)) (by decide) rfl (J_count hG (by decide) hV) (fun v S' h => ?_)
  obtain ⟨m1, rfl, r, rfl, h2⟩ := h
  show WP G _ _ _ _ _ 1244 (lvL i) [.int r] (SH, TA t n j, m1)
  refine WP.aload_n 1 dL_law_1244 rfl rfl ?_
  refine WP.sarg 1 (by decide) (by decide) hi hL dL_law_1245 dL_law_1246 dL_law_1247 dL_law_1248 dL_law_1249 ?_
  refine WP.callV (y := mX6_count) (d := 60) (mc := 0) (ms := 0) (As := [.int (gS G (i + 1))]) (st := [.int r]) dL_law_1250 wm_L_161 mw_X6_count rfl (Nat.le_of_ble_eq_true rfl) rmL (rfl : SH[75]? = some (.inl 6)) (by decide) rfl h2 (fun v S' h => ?_)
  obtain ⟨m2, rfl, rfl, h3⟩ := h
  show WP G _ _ _ _ _ 1253 (lvL i) [.int r, .int r] (SH, TA t n j, m2)
  exact WP.icmp_eq (tgt := 1281) dL_law_1253 (by decide) (fun _ => k _ _ _ _ h3) (fun c => absurd rfl c)
set_option maxHeartbeats 4000000 in
theorem lc_35 (hG : fl G = false) (hi : i + 6 ≤ gL G) (hL : gL G ≤ 3072) (hV : jV m) (k : ∀ t n j m, jV m → WP G room_1 (mL nm) (QL G) 89 3866 1281 (lvL i) [] (SH, TA t n j, m)) : WP G room_1 (mL nm) (QL G) 89 3866 1258 (lvL i) [] (SH, TA t n j, m) := by
  refine WP.aload_n 2 dL_law_1258 rfl rfl ?_
  refine WP.sarg 1 (by decide) (by decide) hi hL dL_law_1259 dL_law_1260 dL_law_1261 dL_law_1262 dL_law_1263 ?_
  refine WP.callV (y := mX5_told) (d := 60) (mc := 0) (ms := 0) (As := [.int (gS G (i + 1))]) (st := []) dL_law_1264 wm_L_162 mw_X5_told rfl (Nat.le_of_ble_eq_true rfl) rmL (rfl : SH[0]? = some (.inl 5)) (by decide) rfl (J_told hG (by decide) hV) (fun v S' h => ?_)
  obtain ⟨m1, rfl, r, rfl, h2⟩ := h
  show WP G _ _ _ _ _ 1267 (lvL i) [.int r] (SH, TA t n j, m1)
  refine WP.aload_n 1 dL_law_1267 rfl rfl ?_
  refine WP.sarg 1 (by decide) (by decide) hi hL dL_law_1268 dL_law_1269 dL_law_1270 dL_law_1271 dL_law_1272 ?_
  refine WP.callV (y := mX6_told) (d := 60) (mc := 0) (ms := 0) (As := [.int (gS G (i + 1))]) (st := [.int r]) dL_law_1273 wm_L_165 mw_X6_told rfl (Nat.le_of_ble_eq_true rfl) rmL (rfl : SH[75]? = some (.inl 6)) (by decide) rfl h2 (fun v S' h => ?_)
  obtain ⟨m2, rfl, rfl, h3⟩ := h
  show WP G _ _ _ _ _ 1276 (lvL i) [.int r, .int r] (SH, TA t n j, m2)
  exact WP.icmp_eq (tgt := 1281) dL_law_1276 (by decide) (fun _ => k _ _ _ _ h3) (fun c => absurd rfl c)
set_option maxHeartbeats 4000000 in
theorem law_loop (hG : fl G = false) (hL : gL G ≤ 3072) : ∀ (e i : Nat), gL G - i ≤ e → i ≤ 3072 → ∀ t n j m, jV m → WP G room_1 (mL nm) (QL G) 89 3866 18 (lvL i) [] (SH, TA t n j, m) := by
  intro e
  induction e with
  | zero =>
    intro i h h9 t n j m hV
    refine WP.iload_n 0 dL_law_18 rfl rfl ?_
    refine WP.aload_n 3 dL_law_19 rfl rfl ?_
    refine WP.alenScript dL_law_20 ?_
    refine WP.bipush (v := 6) dL_law_21 rfl ?_
    refine WP.isub dL_law_23 ?_
    refine WP.icmp_gt (tgt := 1287) dL_law_24 (by decide) (fun _ => ?_) (fun c => absurd (lw_gt (L := gL G) (i := i) hL h9 (by omega)) c)
    refine WP.iconst (v := 1) dL_law_1287 rfl ?_
    exact WP.lend dL_law_1288 (Nat.le_of_ble_eq_true rfl) (Nat.le_of_ble_eq_true rfl)
  | succ e ih =>
    intro i h h9 t n j m hV
    refine WP.iload_n 0 dL_law_18 rfl rfl ?_
    refine WP.aload_n 3 dL_law_19 rfl rfl ?_
    refine WP.alenScript dL_law_20 ?_
    refine WP.bipush (v := 6) dL_law_21 rfl ?_
    refine WP.isub dL_law_23 ?_
    refine WP.icmp_gt (tgt := 1287) dL_law_24 (by decide) (fun _ => ?_) (fun c => ?_)
    · refine WP.iconst (v := 1) dL_law_1287 rfl ?_
      exact WP.lend dL_law_1288 (Nat.le_of_ble_eq_true rfl) (Nat.le_of_ble_eq_true rfl)
    · have hi : i + 6 ≤ gL G := by
        refine Decidable.by_contra fun q => c (lw_gt (L := gL G) (i := i) hL h9 (by omega))
      have k : ∀ t n j m, jV m → WP G room_1 (mL nm) (QL G) 89 3866 1281 (lvL i) [] (SH, TA t n j, m) := by
        intro t n j m hV
        refine WP.iinc 0 6 dL_law_1281 rfl rfl (show 3 < 4 by decide) rfl ?_
        refine WP.goto (tgt := 18) dL_law_1284 (by decide) ?_
        rw [show Int32.ofNat i + 6 = Int32.ofNat (i + 6) from o_add i 6]
        exact ih (i + 6) (by omega) (by omega) t n j m hV
      refine WP.aload_n 3 dL_law_27 rfl rfl ?_
      refine WP.iload_n 0 dL_law_28 rfl rfl ?_
      refine WP.iaScript (ib_o (by unfold gL at hi; omega) (by unfold gL at hL; omega)) dL_law_29 ?_
      refine WP.bipush (v := 63) dL_law_30 rfl ?_
      refine WP.iand dL_law_32 ?_
      refine WP.tsw [192, 225, 258, 291, 334, 357, 390, 423, 436, 469, 532, 555, 578, 601, 624, 647, 670, 713, 746, 769, 792, 825, 859, 892, 915, 958, 981, 1024, 1067, 1130, 1163, 1176, 1189, 1212, 1235, 1258] (td := 1281) dL_law_33 (by decide) (by decide) (by decide) (fun _ => k t n j m hV) (fun c z hz _ => ?_)
      have hc : c < 36 := (List.getElem?_eq_some_iff.mp hz).1
      rcases (show c = 0 ∨ c = 1 ∨ c = 2 ∨ c = 3 ∨ c = 4 ∨ c = 5 ∨ c = 6 ∨ c = 7 ∨ c = 8 ∨ c = 9 ∨ c = 10 ∨ c = 11 ∨ c = 12 ∨ c = 13 ∨ c = 14 ∨ c = 15 ∨ c = 16 ∨ c = 17 ∨ c = 18 ∨ c = 19 ∨ c = 20 ∨ c = 21 ∨ c = 22 ∨ c = 23 ∨ c = 24 ∨ c = 25 ∨ c = 26 ∨ c = 27 ∨ c = 28 ∨ c = 29 ∨ c = 30 ∨ c = 31 ∨ c = 32 ∨ c = 33 ∨ c = 34 ∨ c = 35 by omega) with rfl | rfl | rfl | rfl | rfl | rfl | rfl | rfl | rfl | rfl | rfl | rfl | rfl | rfl | rfl | rfl | rfl | rfl | rfl | rfl | rfl | rfl | rfl | rfl | rfl | rfl | rfl | rfl | rfl | rfl | rfl | rfl | rfl | rfl | rfl | rfl
      · cases hz; exact lc_0 hG hi hL hV k
      · cases hz; exact lc_1 hG hi hL hV k
      · cases hz; exact lc_2 hG hi hL hV k
      · cases hz; exact lc_3 hG hi hL hV k
      · cases hz; exact lc_4 hG hi hL hV k
      · cases hz; exact lc_5 hG hi hL hV k
      · cases hz; exact lc_6 hG hi hL hV k
      · cases hz; exact lc_7 hG hi hL hV k
      · cases hz; exact lc_8 hG hi hL hV k
      · cases hz; exact lc_9 hG hi hL hV k
      · cases hz; exact lc_10 hG hi hL hV k
      · cases hz; exact lc_11 hG hi hL hV k
      · cases hz; exact lc_12 hG hi hL hV k
      · cases hz; exact lc_13 hG hi hL hV k
      · cases hz; exact lc_14 hG hi hL hV k
      · cases hz; exact lc_15 hG hi hL hV k
      · cases hz; exact lc_16 hG hi hL hV k
      · cases hz; exact lc_17 hG hi hL hV k
      · cases hz; exact lc_18 hG hi hL hV k
      · cases hz; exact lc_19 hG hi hL hV k
      · cases hz; exact lc_20 hG hi hL hV k
      · cases hz; exact lc_21 hG hi hL hV k
      · cases hz; exact lc_22 hG hi hL hV k
      · cases hz; exact lc_23 hG hi hL hV k
      · cases hz; exact lc_24 hG hi hL hV k
      · cases hz; exact lc_25 hG hi hL hV k
      · cases hz; exact lc_26 hG hi hL hV k
      · cases hz; exact lc_27 hG hi hL hV k
      · cases hz; exact lc_28 hG hi hL hV k
      · cases hz; exact lc_29 hG hi hL hV k
      · cases hz; exact lc_30 hG hi hL hV k
      · cases hz; exact lc_31 hG hi hL hV k
      · cases hz; exact lc_32 hG hi hL hV k
      · cases hz; exact lc_33 hG hi hL hV k
      · cases hz; exact lc_34 hG hi hL hV k
      · cases hz; exact lc_35 hG hi hL hV k
end


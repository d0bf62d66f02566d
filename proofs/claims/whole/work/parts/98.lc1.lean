/-! the law's cases (laid by wip/whole/spec_loop.py) -/
section LLC
variable {p : Program} {l : Launch} {e : Env} {R : Room} {s : State} {m : MethodId} {args : Array Value} {below : List Frame} {meth : Method} {c : Code} {H : Heap} {locs : List Loc} {cells slots : Nat} {Q : State → Prop}
variable {ls : Array Slot} {D : va_G} {ct : Nat → ClassId} {ek ad cs : Nat → Nat} {N0 qo qd : Nat} {F : State → Prop} {σ : Mem} {v : Nat → Int64} {w : Nat → UInt64} {b L i : Nat} {xs : Nat → Int32}
set_option maxHeartbeats 1000000 in
set_option maxRecDepth 100000 in
/-- person -/
theorem lw_0 (LC : LWC p l R s m args c ek cs N0 F b L xs) (G : GI D ct ek ad N0 (outX ct qo qd v w) F s) (hi : i + 3 < L) (hcs : cells + 3 ≤ R.cells ∧ slots + 18 ≤ R.slots) (C : CRel σ σ) (hP : wP D ct ek ad (outX ct qo qd v w) σ H) (hS : va_S (fr N0) s.heap H locs) (hl : lv_has ls 9 (lvB b ad qo qd i)) (kk : LWK p l e R s m args below meth c cells slots Q D ct ek ad N0 qo qd b i) : W p l e R s m args below meth c H locs cells slots Q (F0 m 220 ls []) := by
  obtain ⟨S, hlt, hF, hY, hX, hbl, hbN, hL, hR⟩ := LC
  have hx := S.1
  have hb := S.2.1
  obtain ⟨n, mb, jn, u, L9, W9, g9, hO, hp, hbr, ⟨hj, hj8, hu, hu8, hu4⟩, hT1, hT2, hT3, hT4⟩ := C.use
  have hn := W9.1.1
  have hn6 := W9.1.2.1
  refine lv_aload_n hx hb dL_law_220 rfl (lv_at hl 2 rfl) ?_
  refine lsc (i := i) (k := 1) S hX hbl hbN hS (by omega) hL (lv_at hl 1 rfl) (lv_at hl 0 rfl) rfl ⟨dL_law_221, dL_law_222, dL_law_224, dL_law_225, dL_law_226⟩ ?_
  refine lsc (i := i) (k := 2) S hX hbl hbN hS (by omega) hL (lv_at hl 1 rfl) (lv_at hl 0 rfl) rfl ⟨dL_law_227, dL_law_228, dL_law_230, dL_law_231, dL_law_232⟩ ?_
  refine lbo S ⟨dL_law_233, dL_law_236, dL_law_237, dL_law_240⟩ ?_
  refine lv_aload_n hx hb dL_law_241 rfl (lv_at hl 4 rfl) ?_
  refine cSL (As := [.ref (ad 0), .int (xs (i + 1)), .int (if xs (i + 2) = 0 then 0 else 1), .ref qo]) S G (c_L_person l hY σ v w (xs (i + 1)) (if xs (i + 2) = 0 then 0 else 1) (c_X10_person l σ (xs (i + 1)) (if xs (i + 2) = 0 then 0 else 1) n mb hO jn hj hj8 u hu hu8 cs hF hY hlt) (fun E τ h => h.1)) ck_person ml_RL_137 hP hS hl.1 ⟨by omega, by omega⟩ rfl rfl (Nat.le_of_ble_eq_true rfl) ⟨by omega, by omega⟩ dL_law_242 (fun r τ v' w' H locs hq hP hS => ?_)
  obtain ⟨h0, h1⟩ := lcC C W9 (by split <;> decide) hj hj8 hu hu8 hq
  have e0 : τ 277 = σ 277 := h0 277 (by decide)
  have e9 := tri77 h0
  refine lv_istore (lv' := (6, .int r) :: lvB b ad qo qd i) hx hb dL_law_245 hl (by decide) rfl (fun ls hl => ?_)
  refine lv_aload_n hx hb dL_law_247 rfl (lv_at hl 4 rfl) ?_
  refine lsc (i := i) (k := 1) S hX hbl hbN hS (by omega) hL (lv_at hl 2 rfl) (lv_at hl 1 rfl) rfl ⟨dL_law_248, dL_law_249, dL_law_251, dL_law_252, dL_law_253⟩ ?_
  refine lsc (i := i) (k := 2) S hX hbl hbN hS (by omega) hL (lv_at hl 2 rfl) (lv_at hl 1 rfl) rfl ⟨dL_law_254, dL_law_255, dL_law_257, dL_law_258, dL_law_259⟩ ?_
  refine lbo S ⟨dL_law_260, dL_law_263, dL_law_264, dL_law_267⟩ ?_
  refine cVL (As := [.int (xs (i + 1)), .int (if xs (i + 2) = 0 then 0 else 1)]) S (GI.x G) 276 (c_X11_person l τ (xs (i + 1)) (if xs (i + 2) = 0 then 0 else 1) n (by rw [e0]; exact hn) hn6 u (by rw [h0 276 (by decide)]; exact hu4) hu8) ok_yX11_person ml_RL_142 (by decide) oM rfl hP hS hl.1 ⟨by omega, by omega⟩ rfl rfl (Nat.le_of_ble_eq_true rfl) ⟨by omega, by omega⟩ dL_law_268 (fun r2 τ2 H locs hq2 hP hS => ?_)
  obtain ⟨f1, f2⟩ := hq2
  rw [f2] at hP
  obtain ⟨k7, k8, k9⟩ := h1 _ _ (sx_per W9 e9)
  refine lv_istore (lv' := (7, .int r2) :: (6, .int r) :: lvB b ad qo qd i) hx hb dL_law_271 hl (by decide) rfl (fun ls hl => ?_)
  refine ltl S (GI.x G) hP hS hl hR ⟨by omega, by omega⟩ k7 (by rw [f1]; exact k8) ⟨dL_law_273, dL_law_274, dL_law_277, dL_law_279, dL_law_284, dL_law_286, dL_law_289, dL_law_290, dL_law_291, dL_law_292, dL_law_294, dL_law_295, dL_law_296, dL_law_301⟩ (by decide) (fun H locs hP hS hl => ?_)
  exact W.widen (by omega) (by omega) (kk _ _ _ H locs _ k9 hP hS hl)
set_option maxHeartbeats 1000000 in
set_option maxRecDepth 100000 in
/-- friends -/
theorem lw_1 (LC : LWC p l R s m args c ek cs N0 F b L xs) (G : GI D ct ek ad N0 (outX ct qo qd v w) F s) (hi : i + 3 < L) (hcs : cells + 3 ≤ R.cells ∧ slots + 18 ≤ R.slots) (C : CRel σ σ) (hP : wP D ct ek ad (outX ct qo qd v w) σ H) (hS : va_S (fr N0) s.heap H locs) (hl : lv_has ls 9 (lvB b ad qo qd i)) (kk : LWK p l e R s m args below meth c cells slots Q D ct ek ad N0 qo qd b i) : W p l e R s m args below meth c H locs cells slots Q (F0 m 304 ls []) := by
  obtain ⟨S, hlt, hF, hY, hX, hbl, hbN, hL, hR⟩ := LC
  have hx := S.1
  have hb := S.2.1
  obtain ⟨n, mb, jn, u, L9, W9, g9, hO, hp, hbr, ⟨hj, hj8, hu, hu8, hu4⟩, hT1, hT2, hT3, hT4⟩ := C.use
  have hn := W9.1.1
  have hn6 := W9.1.2.1
  refine lv_aload_n hx hb dL_law_304 rfl (lv_at hl 2 rfl) ?_
  refine lsc (i := i) (k := 1) S hX hbl hbN hS (by omega) hL (lv_at hl 1 rfl) (lv_at hl 0 rfl) rfl ⟨dL_law_305, dL_law_306, dL_law_308, dL_law_309, dL_law_310⟩ ?_
  refine lsc (i := i) (k := 2) S hX hbl hbN hS (by omega) hL (lv_at hl 1 rfl) (lv_at hl 0 rfl) rfl ⟨dL_law_311, dL_law_312, dL_law_314, dL_law_315, dL_law_316⟩ ?_
  refine lsc (i := i) (k := 3) S hX hbl hbN hS (by omega) hL (lv_at hl 1 rfl) (lv_at hl 0 rfl) rfl ⟨dL_law_317, dL_law_318, dL_law_320, dL_law_321, dL_law_322⟩ ?_
  refine lv_aload_n hx hb dL_law_323 rfl (lv_at hl 4 rfl) ?_
  refine cSL (As := [.ref (ad 0), .int (xs (i + 1)), .int (xs (i + 2)), .int (xs (i + 3)), .ref qo]) S G (c_L_friends l hY σ v w (xs (i + 1)) (xs (i + 2)) (xs (i + 3)) (c_X10_friends l σ (xs (i + 1)) (xs (i + 2)) (xs (i + 3)) n mb hO jn hj hj8 u hu hu8 cs hF hY hlt) (fun E τ h => h.1)) ck_friends ml_RL_146 hP hS hl.1 ⟨by omega, by omega⟩ rfl rfl (Nat.le_of_ble_eq_true rfl) ⟨by omega, by omega⟩ dL_law_324 (fun r τ v' w' H locs hq hP hS => ?_)
  obtain ⟨h0, h1⟩ := lcC C W9 (by decide) hj hj8 hu hu8 hq
  have e0 : τ 277 = σ 277 := h0 277 (by decide)
  have e9 := tri77 h0
  refine lv_istore (lv' := (6, .int r) :: lvB b ad qo qd i) hx hb dL_law_327 hl (by decide) rfl (fun ls hl => ?_)
  refine lv_aload_n hx hb dL_law_329 rfl (lv_at hl 4 rfl) ?_
  refine lsc (i := i) (k := 1) S hX hbl hbN hS (by omega) hL (lv_at hl 2 rfl) (lv_at hl 1 rfl) rfl ⟨dL_law_330, dL_law_331, dL_law_333, dL_law_334, dL_law_335⟩ ?_
  refine lsc (i := i) (k := 2) S hX hbl hbN hS (by omega) hL (lv_at hl 2 rfl) (lv_at hl 1 rfl) rfl ⟨dL_law_336, dL_law_337, dL_law_339, dL_law_340, dL_law_341⟩ ?_
  refine lsc (i := i) (k := 3) S hX hbl hbN hS (by omega) hL (lv_at hl 2 rfl) (lv_at hl 1 rfl) rfl ⟨dL_law_342, dL_law_343, dL_law_345, dL_law_346, dL_law_347⟩ ?_
  refine cVL (As := [.int (xs (i + 1)), .int (xs (i + 2)), .int (xs (i + 3))]) S (GI.x G) 276 (c_X11_friends l τ (xs (i + 1)) (xs (i + 2)) (xs (i + 3)) n (by rw [e0]; exact hn) hn6 u (by rw [h0 276 (by decide)]; exact hu4) hu8) ok_yX11_friends ml_RL_149 (by decide) oM rfl hP hS hl.1 ⟨by omega, by omega⟩ rfl rfl (Nat.le_of_ble_eq_true rfl) ⟨by omega, by omega⟩ dL_law_348 (fun r2 τ2 H locs hq2 hP hS => ?_)
  obtain ⟨f1, f2⟩ := hq2
  rw [f2] at hP
  obtain ⟨k7, k8, k9⟩ := h1 _ _ (sx_bef e9)
  refine lv_istore (lv' := (7, .int r2) :: (6, .int r) :: lvB b ad qo qd i) hx hb dL_law_351 hl (by decide) rfl (fun ls hl => ?_)
  refine ltl S (GI.x G) hP hS hl hR ⟨by omega, by omega⟩ k7 (by rw [f1]; exact k8) ⟨dL_law_353, dL_law_354, dL_law_357, dL_law_359, dL_law_364, dL_law_366, dL_law_369, dL_law_370, dL_law_371, dL_law_372, dL_law_374, dL_law_375, dL_law_376, dL_law_381⟩ (by decide) (fun H locs hP hS hl => ?_)
  exact W.widen (by omega) (by omega) (kk _ _ _ H locs _ k9 hP hS hl)
set_option maxHeartbeats 1000000 in
set_option maxRecDepth 100000 in
/-- round -/
theorem lw_2 (LC : LWC p l R s m args c ek cs N0 F b L xs) (G : GI D ct ek ad N0 (outX ct qo qd v w) F s) (hi : i + 3 < L) (hcs : cells + 3 ≤ R.cells ∧ slots + 18 ≤ R.slots) (C : CRel σ σ) (hP : wP D ct ek ad (outX ct qo qd v w) σ H) (hS : va_S (fr N0) s.heap H locs) (hl : lv_has ls 9 (lvB b ad qo qd i)) (kk : LWK p l e R s m args below meth c cells slots Q D ct ek ad N0 qo qd b i) : W p l e R s m args below meth c H locs cells slots Q (F0 m 384 ls []) := by
  obtain ⟨S, hlt, hF, hY, hX, hbl, hbN, hL, hR⟩ := LC
  have hx := S.1
  have hb := S.2.1
  obtain ⟨n, mb, jn, u, L9, W9, g9, hO, hp, hbr, ⟨hj, hj8, hu, hu8, hu4⟩, hT1, hT2, hT3, hT4⟩ := C.use
  have hn := W9.1.1
  have hn6 := W9.1.2.1
  refine lv_aload_n hx hb dL_law_384 rfl (lv_at hl 2 rfl) ?_
  refine lv_aload_n hx hb dL_law_385 rfl (lv_at hl 4 rfl) ?_
  refine cSL (As := [.ref (ad 0), .ref qo]) S G (c_L_round l hY σ v w (c_X10_round l σ  n mb hO jn hj hj8 u hu hu8 cs hF hY hlt) (fun E τ h => h.1)) ck_round ml_RL_150 hP hS hl.1 ⟨by omega, by omega⟩ rfl rfl (Nat.le_of_ble_eq_true rfl) ⟨by omega, by omega⟩ dL_law_386 (fun r τ v' w' H locs hq hP hS => ?_)
  obtain ⟨h0, h1⟩ := lcC C W9 (by decide) hj hj8 hu hu8 hq
  have e0 : τ 277 = σ 277 := h0 277 (by decide)
  have e9 := tri77 h0
  refine lv_istore (lv' := (6, .int r) :: lvB b ad qo qd i) hx hb dL_law_389 hl (by decide) rfl (fun ls hl => ?_)
  refine lv_aload_n hx hb dL_law_391 rfl (lv_at hl 4 rfl) ?_
  refine cVL (As := []) S (GI.x G) 276 (c_X11_round l τ n mb (by rw [e0]; exact W9.1) u (by rw [h0 276 (by decide)]; exact hu4) hu8) ok_yX11_round ml_RL_153 (by decide) oM rfl hP hS hl.1 ⟨by omega, by omega⟩ rfl rfl (Nat.le_of_ble_eq_true rfl) ⟨by omega, by omega⟩ dL_law_392 (fun r2 τ2 H locs hq2 hP hS => ?_)
  obtain ⟨f1, f2⟩ := hq2
  rw [f2] at hP
  obtain ⟨k7, k8, k9⟩ := h1 _ _ (sx_pas W9 e9)
  refine lv_istore (lv' := (7, .int r2) :: (6, .int r) :: lvB b ad qo qd i) hx hb dL_law_395 hl (by decide) rfl (fun ls hl => ?_)
  refine ltl S (GI.x G) hP hS hl hR ⟨by omega, by omega⟩ k7 (by rw [f1]; exact k8) ⟨dL_law_397, dL_law_398, dL_law_401, dL_law_403, dL_law_408, dL_law_410, dL_law_413, dL_law_414, dL_law_415, dL_law_416, dL_law_418, dL_law_419, dL_law_420, dL_law_425⟩ (by decide) (fun H locs hP hS hl => ?_)
  exact W.widen (by omega) (by omega) (kk _ _ _ H locs _ k9 hP hS hl)
set_option maxHeartbeats 1000000 in
set_option maxRecDepth 100000 in
/-- fact -/
theorem lw_3 (LC : LWC p l R s m args c ek cs N0 F b L xs) (G : GI D ct ek ad N0 (outX ct qo qd v w) F s) (hi : i + 3 < L) (hcs : cells + 3 ≤ R.cells ∧ slots + 18 ≤ R.slots) (C : CRel σ σ) (hP : wP D ct ek ad (outX ct qo qd v w) σ H) (hS : va_S (fr N0) s.heap H locs) (hl : lv_has ls 9 (lvB b ad qo qd i)) (kk : LWK p l e R s m args below meth c cells slots Q D ct ek ad N0 qo qd b i) : W p l e R s m args below meth c H locs cells slots Q (F0 m 428 ls []) := by
  obtain ⟨S, hlt, hF, hY, hX, hbl, hbN, hL, hR⟩ := LC
  have hx := S.1
  have hb := S.2.1
  obtain ⟨n, mb, jn, u, L9, W9, g9, hO, hp, hbr, ⟨hj, hj8, hu, hu8, hu4⟩, hT1, hT2, hT3, hT4⟩ := C.use
  have hn := W9.1.1
  have hn6 := W9.1.2.1
  refine lv_aload_n hx hb dL_law_428 rfl (lv_at hl 2 rfl) ?_
  refine lsc (i := i) (k := 1) S hX hbl hbN hS (by omega) hL (lv_at hl 1 rfl) (lv_at hl 0 rfl) rfl ⟨dL_law_429, dL_law_430, dL_law_432, dL_law_433, dL_law_434⟩ ?_
  refine lsc (i := i) (k := 2) S hX hbl hbN hS (by omega) hL (lv_at hl 1 rfl) (lv_at hl 0 rfl) rfl ⟨dL_law_435, dL_law_436, dL_law_438, dL_law_439, dL_law_440⟩ ?_
  refine lv_aload_n hx hb dL_law_441 rfl (lv_at hl 4 rfl) ?_
  refine cSL (As := [.ref (ad 0), .int (xs (i + 1)), .int (xs (i + 2)), .ref qo]) S G (c_L_fact l hY σ v w (xs (i + 1)) (xs (i + 2)) (c_X10_fact l σ (xs (i + 1)) (xs (i + 2)) n mb hO jn hj hj8 u hu hu8 cs hF hY hlt) (fun E τ h => h.1)) ck_fact ml_RL_154 hP hS hl.1 ⟨by omega, by omega⟩ rfl rfl (Nat.le_of_ble_eq_true rfl) ⟨by omega, by omega⟩ dL_law_442 (fun r τ v' w' H locs hq hP hS => ?_)
  obtain ⟨h0, h1⟩ := lcC C W9 (by decide) hj hj8 hu hu8 hq
  have e0 : τ 277 = σ 277 := h0 277 (by decide)
  have e9 := tri77 h0
  refine lv_istore (lv' := (6, .int r) :: lvB b ad qo qd i) hx hb dL_law_445 hl (by decide) rfl (fun ls hl => ?_)
  refine lv_aload_n hx hb dL_law_447 rfl (lv_at hl 4 rfl) ?_
  refine lsc (i := i) (k := 1) S hX hbl hbN hS (by omega) hL (lv_at hl 2 rfl) (lv_at hl 1 rfl) rfl ⟨dL_law_448, dL_law_449, dL_law_451, dL_law_452, dL_law_453⟩ ?_
  refine lsc (i := i) (k := 2) S hX hbl hbN hS (by omega) hL (lv_at hl 2 rfl) (lv_at hl 1 rfl) rfl ⟨dL_law_454, dL_law_455, dL_law_457, dL_law_458, dL_law_459⟩ ?_
  refine cVL (As := [.int (xs (i + 1)), .int (xs (i + 2))]) S (GI.x G) 276 (c_X11_fact l τ (xs (i + 1)) (xs (i + 2)) n (by rw [e0]; exact hn) hn6 u (by rw [h0 276 (by decide)]; exact hu4) hu8) ok_yX11_fact ml_RL_157 (by decide) oM rfl hP hS hl.1 ⟨by omega, by omega⟩ rfl rfl (Nat.le_of_ble_eq_true rfl) ⟨by omega, by omega⟩ dL_law_460 (fun r2 τ2 H locs hq2 hP hS => ?_)
  obtain ⟨f1, f2⟩ := hq2
  rw [f2] at hP
  obtain ⟨k7, k8, k9⟩ := h1 _ _ (sx_tel e9)
  refine lv_istore (lv' := (7, .int r2) :: (6, .int r) :: lvB b ad qo qd i) hx hb dL_law_463 hl (by decide) rfl (fun ls hl => ?_)
  refine ltl S (GI.x G) hP hS hl hR ⟨by omega, by omega⟩ k7 (by rw [f1]; exact k8) ⟨dL_law_465, dL_law_466, dL_law_469, dL_law_471, dL_law_476, dL_law_478, dL_law_481, dL_law_482, dL_law_483, dL_law_484, dL_law_486, dL_law_487, dL_law_488, dL_law_493⟩ (by decide) (fun H locs hP hS hl => ?_)
  exact W.widen (by omega) (by omega) (kk _ _ _ H locs _ k9 hP hS hl)
set_option maxHeartbeats 1000000 in
set_option maxRecDepth 100000 in
/-- beam -/
theorem lw_4 (LC : LWC p l R s m args c ek cs N0 F b L xs) (G : GI D ct ek ad N0 (outX ct qo qd v w) F s) (hi : i + 3 < L) (hcs : cells + 3 ≤ R.cells ∧ slots + 18 ≤ R.slots) (C : CRel σ σ) (hP : wP D ct ek ad (outX ct qo qd v w) σ H) (hS : va_S (fr N0) s.heap H locs) (hl : lv_has ls 9 (lvB b ad qo qd i)) (kk : LWK p l e R s m args below meth c cells slots Q D ct ek ad N0 qo qd b i) : W p l e R s m args below meth c H locs cells slots Q (F0 m 496 ls []) := by
  obtain ⟨S, hlt, hF, hY, hX, hbl, hbN, hL, hR⟩ := LC
  have hx := S.1
  have hb := S.2.1
  obtain ⟨n, mb, jn, u, L9, W9, g9, hO, hp, hbr, ⟨hj, hj8, hu, hu8, hu4⟩, hT1, hT2, hT3, hT4⟩ := C.use
  have hn := W9.1.1
  have hn6 := W9.1.2.1
  refine lv_aload_n hx hb dL_law_496 rfl (lv_at hl 2 rfl) ?_
  refine lsc (i := i) (k := 1) S hX hbl hbN hS (by omega) hL (lv_at hl 1 rfl) (lv_at hl 0 rfl) rfl ⟨dL_law_497, dL_law_498, dL_law_500, dL_law_501, dL_law_502⟩ ?_
  refine lsc (i := i) (k := 2) S hX hbl hbN hS (by omega) hL (lv_at hl 1 rfl) (lv_at hl 0 rfl) rfl ⟨dL_law_503, dL_law_504, dL_law_506, dL_law_507, dL_law_508⟩ ?_
  refine lsc (i := i) (k := 3) S hX hbl hbN hS (by omega) hL (lv_at hl 1 rfl) (lv_at hl 0 rfl) rfl ⟨dL_law_509, dL_law_510, dL_law_512, dL_law_513, dL_law_514⟩ ?_
  refine lv_aload_n hx hb dL_law_515 rfl (lv_at hl 4 rfl) ?_
  refine cSL (As := [.ref (ad 0), .int (xs (i + 1)), .int (xs (i + 2)), .int (xs (i + 3)), .ref qo]) S G (c_L_beam l hY σ v w (xs (i + 1)) (xs (i + 2)) (xs (i + 3)) (c_X10_beam l σ (xs (i + 1)) (xs (i + 2)) (xs (i + 3)) n mb hO jn hj hj8 u hu hu8 cs hF hY hlt) (fun E τ h => h.1)) ck_beam ml_RL_158 hP hS hl.1 ⟨by omega, by omega⟩ rfl rfl (Nat.le_of_ble_eq_true rfl) ⟨by omega, by omega⟩ dL_law_516 (fun r τ v' w' H locs hq hP hS => ?_)
  obtain ⟨h0, h1⟩ := lcC C W9 (by decide) hj hj8 hu hu8 hq
  have e0 : τ 277 = σ 277 := h0 277 (by decide)
  have e9 := tri77 h0
  refine lv_istore (lv' := (6, .int r) :: lvB b ad qo qd i) hx hb dL_law_519 hl (by decide) rfl (fun ls hl => ?_)
  refine lv_aload_n hx hb dL_law_521 rfl (lv_at hl 4 rfl) ?_
  refine lsc (i := i) (k := 1) S hX hbl hbN hS (by omega) hL (lv_at hl 2 rfl) (lv_at hl 1 rfl) rfl ⟨dL_law_522, dL_law_523, dL_law_525, dL_law_526, dL_law_527⟩ ?_
  refine lsc (i := i) (k := 2) S hX hbl hbN hS (by omega) hL (lv_at hl 2 rfl) (lv_at hl 1 rfl) rfl ⟨dL_law_528, dL_law_529, dL_law_531, dL_law_532, dL_law_533⟩ ?_
  refine lsc (i := i) (k := 3) S hX hbl hbN hS (by omega) hL (lv_at hl 2 rfl) (lv_at hl 1 rfl) rfl ⟨dL_law_534, dL_law_535, dL_law_537, dL_law_538, dL_law_539⟩ ?_
  refine cVL (As := [.int (xs (i + 1)), .int (xs (i + 2)), .int (xs (i + 3))]) S (GI.x G) 276 (c_X11_beam_ l τ (xs (i + 1)) (xs (i + 2)) (xs (i + 3)) n (by rw [e0]; exact hn) hn6 mb (by rw [e0]; exact W9.1.2.2.1) W9.1.2.2.2.1 u (by rw [h0 276 (by decide)]; exact hu4) hu8) ok_yX11_beam_ ml_RL_160 (by decide) oM rfl hP hS hl.1 ⟨by omega, by omega⟩ rfl rfl (Nat.le_of_ble_eq_true rfl) ⟨by omega, by omega⟩ dL_law_540 (fun r2 τ2 H locs hq2 hP hS => ?_)
  obtain ⟨f1, f2⟩ := hq2
  rw [f2] at hP
  obtain ⟨k7, k8, k9⟩ := h1 _ _ (sx_put W9 e9)
  refine lv_istore (lv' := (7, .int r2) :: (6, .int r) :: lvB b ad qo qd i) hx hb dL_law_543 hl (by decide) rfl (fun ls hl => ?_)
  refine ltl S (GI.x G) hP hS hl hR ⟨by omega, by omega⟩ k7 (by rw [f1]; exact k8) ⟨dL_law_545, dL_law_546, dL_law_549, dL_law_551, dL_law_556, dL_law_558, dL_law_561, dL_law_562, dL_law_563, dL_law_564, dL_law_566, dL_law_567, dL_law_568, dL_law_573⟩ (by decide) (fun H locs hP hS hl => ?_)
  exact W.widen (by omega) (by omega) (kk _ _ _ H locs _ k9 hP hS hl)
set_option maxHeartbeats 1000000 in
set_option maxRecDepth 100000 in
/-- remove -/
theorem lw_5 (LC : LWC p l R s m args c ek cs N0 F b L xs) (G : GI D ct ek ad N0 (outX ct qo qd v w) F s) (hi : i + 3 < L) (hcs : cells + 3 ≤ R.cells ∧ slots + 18 ≤ R.slots) (C : CRel σ σ) (hP : wP D ct ek ad (outX ct qo qd v w) σ H) (hS : va_S (fr N0) s.heap H locs) (hl : lv_has ls 9 (lvB b ad qo qd i)) (kk : LWK p l e R s m args below meth c cells slots Q D ct ek ad N0 qo qd b i) : W p l e R s m args below meth c H locs cells slots Q (F0 m 576 ls []) := by
  obtain ⟨S, hlt, hF, hY, hX, hbl, hbN, hL, hR⟩ := LC
  have hx := S.1
  have hb := S.2.1
  obtain ⟨n, mb, jn, u, L9, W9, g9, hO, hp, hbr, ⟨hj, hj8, hu, hu8, hu4⟩, hT1, hT2, hT3, hT4⟩ := C.use
  have hn := W9.1.1
  have hn6 := W9.1.2.1
  refine lv_aload_n hx hb dL_law_576 rfl (lv_at hl 2 rfl) ?_
  refine lsc (i := i) (k := 1) S hX hbl hbN hS (by omega) hL (lv_at hl 1 rfl) (lv_at hl 0 rfl) rfl ⟨dL_law_577, dL_law_578, dL_law_580, dL_law_581, dL_law_582⟩ ?_
  refine lv_aload_n hx hb dL_law_583 rfl (lv_at hl 4 rfl) ?_
  refine cSL (As := [.ref (ad 0), .int (xs (i + 1)), .ref qo]) S G (c_L_remove l hY σ v w (xs (i + 1)) (c_X10_remove l σ (xs (i + 1)) n mb hO jn hj hj8 u hu hu8 cs hF hY hlt) (fun E τ h => h.1)) ck_remove ml_RL_161 hP hS hl.1 ⟨by omega, by omega⟩ rfl rfl (Nat.le_of_ble_eq_true rfl) ⟨by omega, by omega⟩ dL_law_584 (fun r τ v' w' H locs hq hP hS => ?_)
  obtain ⟨h0, h1⟩ := lcC C W9 (by decide) hj hj8 hu hu8 hq
  have e0 : τ 277 = σ 277 := h0 277 (by decide)
  have e9 := tri77 h0
  refine lv_istore (lv' := (6, .int r) :: lvB b ad qo qd i) hx hb dL_law_587 hl (by decide) rfl (fun ls hl => ?_)
  refine lv_aload_n hx hb dL_law_589 rfl (lv_at hl 4 rfl) ?_
  refine lsc (i := i) (k := 1) S hX hbl hbN hS (by omega) hL (lv_at hl 2 rfl) (lv_at hl 1 rfl) rfl ⟨dL_law_590, dL_law_591, dL_law_593, dL_law_594, dL_law_595⟩ ?_
  refine cVL (As := [.int (xs (i + 1))]) S (GI.x G) 276 (c_X11_remove l τ (xs (i + 1)) mb (by rw [e0]; exact W9.1.2.2.1) W9.1.2.2.2.1 u (by rw [h0 276 (by decide)]; exact hu4) hu8) ok_yX11_remove ml_RL_164 (by decide) oM rfl hP hS hl.1 ⟨by omega, by omega⟩ rfl rfl (Nat.le_of_ble_eq_true rfl) ⟨by omega, by omega⟩ dL_law_596 (fun r2 τ2 H locs hq2 hP hS => ?_)
  obtain ⟨f1, f2⟩ := hq2
  rw [f2] at hP
  obtain ⟨k7, k8, k9⟩ := h1 _ _ (sx_tak W9 e9)
  refine lv_istore (lv' := (7, .int r2) :: (6, .int r) :: lvB b ad qo qd i) hx hb dL_law_599 hl (by decide) rfl (fun ls hl => ?_)
  refine ltl S (GI.x G) hP hS hl hR ⟨by omega, by omega⟩ k7 (by rw [f1]; exact k8) ⟨dL_law_601, dL_law_602, dL_law_605, dL_law_607, dL_law_612, dL_law_614, dL_law_617, dL_law_618, dL_law_619, dL_law_620, dL_law_622, dL_law_623, dL_law_624, dL_law_629⟩ (by decide) (fun H locs hP hS hl => ?_)
  exact W.widen (by omega) (by omega) (kk _ _ _ H locs _ k9 hP hS hl)
set_option maxHeartbeats 1000000 in
set_option maxRecDepth 100000 in
/-- habit -/
theorem lw_6 (LC : LWC p l R s m args c ek cs N0 F b L xs) (G : GI D ct ek ad N0 (outX ct qo qd v w) F s) (hi : i + 3 < L) (hcs : cells + 3 ≤ R.cells ∧ slots + 18 ≤ R.slots) (C : CRel σ σ) (hP : wP D ct ek ad (outX ct qo qd v w) σ H) (hS : va_S (fr N0) s.heap H locs) (hl : lv_has ls 9 (lvB b ad qo qd i)) (kk : LWK p l e R s m args below meth c cells slots Q D ct ek ad N0 qo qd b i) : W p l e R s m args below meth c H locs cells slots Q (F0 m 632 ls []) := by
  obtain ⟨S, hlt, hF, hY, hX, hbl, hbN, hL, hR⟩ := LC
  have hx := S.1
  have hb := S.2.1
  obtain ⟨n, mb, jn, u, L9, W9, g9, hO, hp, hbr, ⟨hj, hj8, hu, hu8, hu4⟩, hT1, hT2, hT3, hT4⟩ := C.use
  have hn := W9.1.1
  have hn6 := W9.1.2.1
  refine lv_aload_n hx hb dL_law_632 rfl (lv_at hl 2 rfl) ?_
  refine lsc (i := i) (k := 1) S hX hbl hbN hS (by omega) hL (lv_at hl 1 rfl) (lv_at hl 0 rfl) rfl ⟨dL_law_633, dL_law_634, dL_law_636, dL_law_637, dL_law_638⟩ ?_
  refine lsc (i := i) (k := 2) S hX hbl hbN hS (by omega) hL (lv_at hl 1 rfl) (lv_at hl 0 rfl) rfl ⟨dL_law_639, dL_law_640, dL_law_642, dL_law_643, dL_law_644⟩ ?_
  refine lv_aload_n hx hb dL_law_645 rfl (lv_at hl 4 rfl) ?_
  refine cSL (As := [.ref (ad 0), .int (xs (i + 1)), .int (xs (i + 2)), .ref qo]) S G (c_L_habit l hY σ v w (xs (i + 1)) (xs (i + 2)) (c_X10_habit l σ (xs (i + 1)) (xs (i + 2)) n mb hO jn hj hj8 u hu hu8 cs hF hY hlt) (fun E τ h => h.1)) ck_habit ml_RL_165 hP hS hl.1 ⟨by omega, by omega⟩ rfl rfl (Nat.le_of_ble_eq_true rfl) ⟨by omega, by omega⟩ dL_law_646 (fun r τ v' w' H locs hq hP hS => ?_)
  obtain ⟨h0, h1⟩ := lcC C W9 (by decide) hj hj8 hu hu8 hq
  have e0 : τ 277 = σ 277 := h0 277 (by decide)
  have e9 := tri77 h0
  refine lv_istore (lv' := (6, .int r) :: lvB b ad qo qd i) hx hb dL_law_649 hl (by decide) rfl (fun ls hl => ?_)
  refine lv_aload_n hx hb dL_law_651 rfl (lv_at hl 4 rfl) ?_
  refine lsc (i := i) (k := 1) S hX hbl hbN hS (by omega) hL (lv_at hl 2 rfl) (lv_at hl 1 rfl) rfl ⟨dL_law_652, dL_law_653, dL_law_655, dL_law_656, dL_law_657⟩ ?_
  refine lsc (i := i) (k := 2) S hX hbl hbN hS (by omega) hL (lv_at hl 2 rfl) (lv_at hl 1 rfl) rfl ⟨dL_law_658, dL_law_659, dL_law_661, dL_law_662, dL_law_663⟩ ?_
  refine cVL (As := [.int (xs (i + 1)), .int (xs (i + 2))]) S (GI.x G) 276 (c_X11_habit l τ (xs (i + 1)) (xs (i + 2)) n (by rw [e0]; exact hn) hn6 u (by rw [h0 276 (by decide)]; exact hu4) hu8) ok_yX11_habit ml_RL_167 (by decide) oM rfl hP hS hl.1 ⟨by omega, by omega⟩ rfl rfl (Nat.le_of_ble_eq_true rfl) ⟨by omega, by omega⟩ dL_law_664 (fun r2 τ2 H locs hq2 hP hS => ?_)
  obtain ⟨f1, f2⟩ := hq2
  rw [f2] at hP
  obtain ⟨k7, k8, k9⟩ := h1 _ _ (sx_acc e9)
  refine lv_istore (lv' := (7, .int r2) :: (6, .int r) :: lvB b ad qo qd i) hx hb dL_law_667 hl (by decide) rfl (fun ls hl => ?_)
  refine ltl S (GI.x G) hP hS hl hR ⟨by omega, by omega⟩ k7 (by rw [f1]; exact k8) ⟨dL_law_669, dL_law_670, dL_law_673, dL_law_675, dL_law_680, dL_law_682, dL_law_685, dL_law_686, dL_law_687, dL_law_688, dL_law_690, dL_law_691, dL_law_692, dL_law_697⟩ (by decide) (fun H locs hP hS hl => ?_)
  exact W.widen (by omega) (by omega) (kk _ _ _ H locs _ k9 hP hS hl)
set_option maxHeartbeats 1000000 in
set_option maxRecDepth 100000 in
/-- personOf -/
theorem lw_7 (LC : LWC p l R s m args c ek cs N0 F b L xs) (G : GI D ct ek ad N0 (outX ct qo qd v w) F s) (hi : i + 3 < L) (hcs : cells + 3 ≤ R.cells ∧ slots + 18 ≤ R.slots) (C : CRel σ σ) (hP : wP D ct ek ad (outX ct qo qd v w) σ H) (hS : va_S (fr N0) s.heap H locs) (hl : lv_has ls 9 (lvB b ad qo qd i)) (kk : LWK p l e R s m args below meth c cells slots Q D ct ek ad N0 qo qd b i) : W p l e R s m args below meth c H locs cells slots Q (F0 m 700 ls []) := by
  obtain ⟨S, hlt, hF, hY, hX, hbl, hbN, hL, hR⟩ := LC
  have hx := S.1
  have hb := S.2.1
  obtain ⟨n, mb, jn, u, L9, W9, g9, hO, hp, hbr, ⟨hj, hj8, hu, hu8, hu4⟩, hT1, hT2, hT3, hT4⟩ := C.use
  have hn := W9.1.1
  have hn6 := W9.1.2.1
  refine lv_aload_n hx hb dL_law_700 rfl (lv_at hl 2 rfl) ?_
  refine lsc (i := i) (k := 1) S hX hbl hbN hS (by omega) hL (lv_at hl 1 rfl) (lv_at hl 0 rfl) rfl ⟨dL_law_701, dL_law_702, dL_law_704, dL_law_705, dL_law_706⟩ ?_
  refine lsc (i := i) (k := 2) S hX hbl hbN hS (by omega) hL (lv_at hl 1 rfl) (lv_at hl 0 rfl) rfl ⟨dL_law_707, dL_law_708, dL_law_710, dL_law_711, dL_law_712⟩ ?_
  refine lv_aload_n hx hb dL_law_713 rfl (lv_at hl 4 rfl) ?_
  refine cSL (As := [.ref (ad 0), .int (xs (i + 1)), .int (xs (i + 2)), .ref qo]) S G (c_L_personOf l hY σ v w (xs (i + 1)) (xs (i + 2)) (c_X10_personOf l σ (xs (i + 1)) (xs (i + 2)) n mb hO cs hF hY hlt) (fun E τ h => PXd_2 h)) ck_personOf ml_RL_168 hP hS hl.1 ⟨by omega, by omega⟩ rfl rfl (Nat.le_of_ble_eq_true rfl) ⟨by omega, by omega⟩ dL_law_714 (fun r τ v' w' H locs hq hP hS => ?_)
  obtain ⟨e1, e2, e3⟩ := qA (by decide) (by decide) hq
  rw [e2] at hP
  refine lv_istore (lv' := (6, .int r) :: lvB b ad qo qd i) hx hb dL_law_717 hl (by decide) rfl (fun ls hl => ?_)
  refine lv_aload_n hx hb dL_law_719 rfl (lv_at hl 4 rfl) ?_
  refine lsc (i := i) (k := 1) S hX hbl hbN hS (by omega) hL (lv_at hl 2 rfl) (lv_at hl 1 rfl) rfl ⟨dL_law_720, dL_law_721, dL_law_723, dL_law_724, dL_law_725⟩ ?_
  refine lsc (i := i) (k := 2) S hX hbl hbN hS (by omega) hL (lv_at hl 2 rfl) (lv_at hl 1 rfl) rfl ⟨dL_law_726, dL_law_727, dL_law_729, dL_law_730, dL_law_731⟩ ?_
  refine cVL (As := [.int (xs (i + 1)), .int (xs (i + 2))]) S (GI.x G) 276 (c_X11_personOf l σ (xs (i + 1)) (xs (i + 2)) n hn hn6) ok_yX11_personOf ml_RL_170 (by decide) oM rfl hP hS hl.1 ⟨by omega, by omega⟩ rfl rfl (Nat.le_of_ble_eq_true rfl) ⟨by omega, by omega⟩ dL_law_732 (fun r2 τ2 H locs hq2 hP hS => ?_)
  obtain ⟨f1, f2⟩ := hq2
  rw [f2] at hP
  obtain ⟨k7, k8, k9⟩ := qE C e1 e3 (q_pof W9 g9)
  refine lv_istore (lv' := (7, .int r2) :: (6, .int r) :: lvB b ad qo qd i) hx hb dL_law_735 hl (by decide) rfl (fun ls hl => ?_)
  refine ltl S (GI.x G) hP hS hl hR ⟨by omega, by omega⟩ k7 (by rw [f1]; exact k8) ⟨dL_law_737, dL_law_738, dL_law_741, dL_law_743, dL_law_748, dL_law_750, dL_law_753, dL_law_754, dL_law_755, dL_law_756, dL_law_758, dL_law_759, dL_law_760, dL_law_765⟩ (by decide) (fun H locs hP hS hl => ?_)
  exact W.widen (by omega) (by omega) (kk _ _ _ H locs _ k9 hP hS hl)
set_option maxHeartbeats 1000000 in
set_option maxRecDepth 100000 in
/-- weight -/
theorem lw_8 (LC : LWC p l R s m args c ek cs N0 F b L xs) (G : GI D ct ek ad N0 (outX ct qo qd v w) F s) (hi : i + 3 < L) (hcs : cells + 3 ≤ R.cells ∧ slots + 18 ≤ R.slots) (C : CRel σ σ) (hP : wP D ct ek ad (outX ct qo qd v w) σ H) (hS : va_S (fr N0) s.heap H locs) (hl : lv_has ls 9 (lvB b ad qo qd i)) (kk : LWK p l e R s m args below meth c cells slots Q D ct ek ad N0 qo qd b i) : W p l e R s m args below meth c H locs cells slots Q (F0 m 768 ls []) := by
  obtain ⟨S, hlt, hF, hY, hX, hbl, hbN, hL, hR⟩ := LC
  have hx := S.1
  have hb := S.2.1
  obtain ⟨n, mb, jn, u, L9, W9, g9, hO, hp, hbr, ⟨hj, hj8, hu, hu8, hu4⟩, hT1, hT2, hT3, hT4⟩ := C.use
  have hn := W9.1.1
  have hn6 := W9.1.2.1
  refine lv_aload_n hx hb dL_law_768 rfl (lv_at hl 2 rfl) ?_
  refine lsc (i := i) (k := 1) S hX hbl hbN hS (by omega) hL (lv_at hl 1 rfl) (lv_at hl 0 rfl) rfl ⟨dL_law_769, dL_law_770, dL_law_772, dL_law_773, dL_law_774⟩ ?_
  refine lsc (i := i) (k := 2) S hX hbl hbN hS (by omega) hL (lv_at hl 1 rfl) (lv_at hl 0 rfl) rfl ⟨dL_law_775, dL_law_776, dL_law_778, dL_law_779, dL_law_780⟩ ?_
  refine lv_aload_n hx hb dL_law_781 rfl (lv_at hl 4 rfl) ?_
  refine cSL (As := [.ref (ad 0), .int (xs (i + 1)), .int (xs (i + 2)), .ref qo]) S G (c_L_weight l hY σ v w (xs (i + 1)) (xs (i + 2)) (c_X10_weight l σ (xs (i + 1)) (xs (i + 2)) n mb hO cs hF hY hlt) (fun E τ h => PXd_1 h)) ck_weight ml_RL_171 hP hS hl.1 ⟨by omega, by omega⟩ rfl rfl (Nat.le_of_ble_eq_true rfl) ⟨by omega, by omega⟩ dL_law_782 (fun r τ v' w' H locs hq hP hS => ?_)
  obtain ⟨e1, e2, e3⟩ := qA (by decide) (by decide) hq
  rw [e2] at hP
  refine lv_istore (lv' := (6, .int r) :: lvB b ad qo qd i) hx hb dL_law_785 hl (by decide) rfl (fun ls hl => ?_)
  refine lv_aload_n hx hb dL_law_787 rfl (lv_at hl 4 rfl) ?_
  refine lsc (i := i) (k := 1) S hX hbl hbN hS (by omega) hL (lv_at hl 2 rfl) (lv_at hl 1 rfl) rfl ⟨dL_law_788, dL_law_789, dL_law_791, dL_law_792, dL_law_793⟩ ?_
  refine lsc (i := i) (k := 2) S hX hbl hbN hS (by omega) hL (lv_at hl 2 rfl) (lv_at hl 1 rfl) rfl ⟨dL_law_794, dL_law_795, dL_law_797, dL_law_798, dL_law_799⟩ ?_
  refine cVL (As := [.int (xs (i + 1)), .int (xs (i + 2))]) S (GI.x G) 276 (c_X11_weight l σ (xs (i + 1)) (xs (i + 2)) n hn hn6) ok_yX11_weight ml_RL_173 (by decide) oM rfl hP hS hl.1 ⟨by omega, by omega⟩ rfl rfl (Nat.le_of_ble_eq_true rfl) ⟨by omega, by omega⟩ dL_law_800 (fun r2 τ2 H locs hq2 hP hS => ?_)
  obtain ⟨f1, f2⟩ := hq2
  rw [f2] at hP
  obtain ⟨k7, k8, k9⟩ := qE C e1 e3 (q_wgt W9 g9)
  refine lv_istore (lv' := (7, .int r2) :: (6, .int r) :: lvB b ad qo qd i) hx hb dL_law_803 hl (by decide) rfl (fun ls hl => ?_)
  refine ltl S (GI.x G) hP hS hl hR ⟨by omega, by omega⟩ k7 (by rw [f1]; exact k8) ⟨dL_law_805, dL_law_806, dL_law_809, dL_law_811, dL_law_816, dL_law_818, dL_law_821, dL_law_822, dL_law_823, dL_law_824, dL_law_826, dL_law_827, dL_law_828, dL_law_833⟩ (by decide) (fun H locs hP hS hl => ?_)
  exact W.widen (by omega) (by omega) (kk _ _ _ H locs _ k9 hP hS hl)
set_option maxHeartbeats 1000000 in
set_option maxRecDepth 100000 in
/-- beamOf -/
theorem lw_9 (LC : LWC p l R s m args c ek cs N0 F b L xs) (G : GI D ct ek ad N0 (outX ct qo qd v w) F s) (hi : i + 3 < L) (hcs : cells + 3 ≤ R.cells ∧ slots + 18 ≤ R.slots) (C : CRel σ σ) (hP : wP D ct ek ad (outX ct qo qd v w) σ H) (hS : va_S (fr N0) s.heap H locs) (hl : lv_has ls 9 (lvB b ad qo qd i)) (kk : LWK p l e R s m args below meth c cells slots Q D ct ek ad N0 qo qd b i) : W p l e R s m args below meth c H locs cells slots Q (F0 m 836 ls []) := by
  obtain ⟨S, hlt, hF, hY, hX, hbl, hbN, hL, hR⟩ := LC
  have hx := S.1
  have hb := S.2.1
  obtain ⟨n, mb, jn, u, L9, W9, g9, hO, hp, hbr, ⟨hj, hj8, hu, hu8, hu4⟩, hT1, hT2, hT3, hT4⟩ := C.use
  have hn := W9.1.1
  have hn6 := W9.1.2.1
  refine lv_aload_n hx hb dL_law_836 rfl (lv_at hl 2 rfl) ?_
  refine lsc (i := i) (k := 1) S hX hbl hbN hS (by omega) hL (lv_at hl 1 rfl) (lv_at hl 0 rfl) rfl ⟨dL_law_837, dL_law_838, dL_law_840, dL_law_841, dL_law_842⟩ ?_
  refine lsc (i := i) (k := 2) S hX hbl hbN hS (by omega) hL (lv_at hl 1 rfl) (lv_at hl 0 rfl) rfl ⟨dL_law_843, dL_law_844, dL_law_846, dL_law_847, dL_law_848⟩ ?_
  refine lv_aload_n hx hb dL_law_849 rfl (lv_at hl 4 rfl) ?_
  refine cSL (As := [.ref (ad 0), .int (xs (i + 1)), .int (xs (i + 2)), .ref qo]) S G (c_L_beamOf l hY σ v w (xs (i + 1)) (xs (i + 2)) (c_X10_beamOf l σ (xs (i + 1)) (xs (i + 2)) n mb hO cs hF hY hlt) (fun E τ h => PXd_2 h)) ck_beamOf ml_RL_174 hP hS hl.1 ⟨by omega, by omega⟩ rfl rfl (Nat.le_of_ble_eq_true rfl) ⟨by omega, by omega⟩ dL_law_850 (fun r τ v' w' H locs hq hP hS => ?_)
  obtain ⟨e1, e2, e3⟩ := qA (by decide) (by decide) hq
  rw [e2] at hP
  refine lv_istore (lv' := (6, .int r) :: lvB b ad qo qd i) hx hb dL_law_853 hl (by decide) rfl (fun ls hl => ?_)
  refine lv_aload_n hx hb dL_law_855 rfl (lv_at hl 4 rfl) ?_
  refine lsc (i := i) (k := 1) S hX hbl hbN hS (by omega) hL (lv_at hl 2 rfl) (lv_at hl 1 rfl) rfl ⟨dL_law_856, dL_law_857, dL_law_859, dL_law_860, dL_law_861⟩ ?_
  refine lsc (i := i) (k := 2) S hX hbl hbN hS (by omega) hL (lv_at hl 2 rfl) (lv_at hl 1 rfl) rfl ⟨dL_law_862, dL_law_863, dL_law_865, dL_law_866, dL_law_867⟩ ?_
  refine cVL (As := [.int (xs (i + 1)), .int (xs (i + 2))]) S (GI.x G) 276 (c_X11_beamOf l σ (xs (i + 1)) (xs (i + 2)) n mb W9.1) ok_yX11_beamOf ml_RL_176 (by decide) oM rfl hP hS hl.1 ⟨by omega, by omega⟩ rfl rfl (Nat.le_of_ble_eq_true rfl) ⟨by omega, by omega⟩ dL_law_868 (fun r2 τ2 H locs hq2 hP hS => ?_)
  obtain ⟨f1, f2⟩ := hq2
  rw [f2] at hP
  obtain ⟨k7, k8, k9⟩ := qE C e1 e3 (q_bof W9 g9)
  refine lv_istore (lv' := (7, .int r2) :: (6, .int r) :: lvB b ad qo qd i) hx hb dL_law_871 hl (by decide) rfl (fun ls hl => ?_)
  refine ltl S (GI.x G) hP hS hl hR ⟨by omega, by omega⟩ k7 (by rw [f1]; exact k8) ⟨dL_law_873, dL_law_874, dL_law_877, dL_law_879, dL_law_884, dL_law_886, dL_law_889, dL_law_890, dL_law_891, dL_law_892, dL_law_894, dL_law_895, dL_law_896, dL_law_901⟩ (by decide) (fun H locs hP hS hl => ?_)
  exact W.widen (by omega) (by omega) (kk _ _ _ H locs _ k9 hP hS hl)
end LLC

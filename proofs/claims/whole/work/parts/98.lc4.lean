/-! the law's cases (laid by wip/whole/spec_loop.py) -/
section LLC
variable {p : Program} {l : Launch} {e : Env} {R : Room} {s : State} {m : MethodId} {args : Array Value} {below : List Frame} {meth : Method} {c : Code} {H : Heap} {locs : List Loc} {cells slots : Nat} {Q : State → Prop}
variable {ls : Array Slot} {D : va_G} {ct : Nat → ClassId} {ek ad cs : Nat → Nat} {N0 qo qd : Nat} {F : State → Prop} {σ : Mem} {v : Nat → Int64} {w : Nat → UInt64} {b L i : Nat} {xs : Nat → Int32}
set_option maxHeartbeats 1000000 in
set_option maxRecDepth 100000 in
/-- reason -/
theorem lw_30 (LC : LWC p l R s m args c ek cs N0 F b L xs) (G : GI D ct ek ad N0 (outX ct qo qd v w) F s) (hi : i + 3 < L) (hcs : cells + 3 ≤ R.cells ∧ slots + 18 ≤ R.slots) (C : CRel σ σ) (hP : wP D ct ek ad (outX ct qo qd v w) σ H) (hS : va_S (fr N0) s.heap H locs) (hl : lv_has ls 9 (lvB b ad qo qd i)) (kk : LWK p l e R s m args below meth c cells slots Q D ct ek ad N0 qo qd b i) : W p l e R s m args below meth c H locs cells slots Q (F0 m 1894 ls []) := by
  obtain ⟨S, hlt, hF, hY, hX, hbl, hbN, hL, hR⟩ := LC
  have hx := S.1
  have hb := S.2.1
  obtain ⟨n, mb, jn, u, L9, W9, g9, hO, hp, hbr, ⟨hj, hj8, hu, hu8, hu4⟩, hT1, hT2, hT3, hT4⟩ := C.use
  have hn := W9.1.1
  have hn6 := W9.1.2.1
  refine lv_aload_n hx hb dL_law_1894 rfl (lv_at hl 2 rfl) ?_
  refine lsc (i := i) (k := 1) S hX hbl hbN hS (by omega) hL (lv_at hl 1 rfl) (lv_at hl 0 rfl) rfl ⟨dL_law_1895, dL_law_1896, dL_law_1898, dL_law_1899, dL_law_1900⟩ ?_
  refine lv_aload_n hx hb dL_law_1901 rfl (lv_at hl 4 rfl) ?_
  refine cSL (As := [.ref (ad 0), .int (xs (i + 1)), .ref qo]) S G (c_L_reason l hY σ v w (xs (i + 1)) (c_X10_reason l σ (xs (i + 1)) cs hF hY hlt) (fun E τ h => PXd_2 h)) ck_reason ml_RL_244 hP hS hl.1 ⟨by omega, by omega⟩ rfl rfl (Nat.le_of_ble_eq_true rfl) ⟨by omega, by omega⟩ dL_law_1902 (fun r τ v' w' H locs hq hP hS => ?_)
  obtain ⟨e1, e2, e3⟩ := qA (by decide) (by decide) hq
  rw [e2] at hP
  refine lv_istore (lv' := (6, .int r) :: lvB b ad qo qd i) hx hb dL_law_1905 hl (by decide) rfl (fun ls hl => ?_)
  refine lv_aload_n hx hb dL_law_1907 rfl (lv_at hl 4 rfl) ?_
  refine lsc (i := i) (k := 1) S hX hbl hbN hS (by omega) hL (lv_at hl 2 rfl) (lv_at hl 1 rfl) rfl ⟨dL_law_1908, dL_law_1909, dL_law_1911, dL_law_1912, dL_law_1913⟩ ?_
  refine cVL (As := [.int (xs (i + 1))]) S (GI.x G) 276 (c_X11_reason l σ (xs (i + 1))) ok_yX11_reason ml_RL_246 (by decide) oM rfl hP hS hl.1 ⟨by omega, by omega⟩ rfl rfl (Nat.le_of_ble_eq_true rfl) ⟨by omega, by omega⟩ dL_law_1914 (fun r2 τ2 H locs hq2 hP hS => ?_)
  obtain ⟨f1, f2⟩ := hq2
  rw [f2] at hP
  obtain ⟨k7, k8, k9⟩ := qE C e1 e3 (q_rea C.2.2.2.2.2.2.2)
  refine lv_istore (lv' := (7, .int r2) :: (6, .int r) :: lvB b ad qo qd i) hx hb dL_law_1917 hl (by decide) rfl (fun ls hl => ?_)
  refine ltl S (GI.x G) hP hS hl hR ⟨by omega, by omega⟩ k7 (by rw [f1]; exact k8) ⟨dL_law_1919, dL_law_1920, dL_law_1923, dL_law_1925, dL_law_1930, dL_law_1932, dL_law_1935, dL_law_1936, dL_law_1937, dL_law_1938, dL_law_1940, dL_law_1941, dL_law_1942, dL_law_1947⟩ (by decide) (fun H locs hP hS hl => ?_)
  exact W.widen (by omega) (by omega) (kk _ _ _ H locs _ k9 hP hS hl)
set_option maxHeartbeats 1000000 in
set_option maxRecDepth 100000 in
/-- line -/
theorem lw_31 (LC : LWC p l R s m args c ek cs N0 F b L xs) (G : GI D ct ek ad N0 (outX ct qo qd v w) F s) (hi : i + 3 < L) (hcs : cells + 3 ≤ R.cells ∧ slots + 18 ≤ R.slots) (C : CRel σ σ) (hP : wP D ct ek ad (outX ct qo qd v w) σ H) (hS : va_S (fr N0) s.heap H locs) (hl : lv_has ls 9 (lvB b ad qo qd i)) (kk : LWK p l e R s m args below meth c cells slots Q D ct ek ad N0 qo qd b i) : W p l e R s m args below meth c H locs cells slots Q (F0 m 1950 ls []) := by
  obtain ⟨S, hlt, hF, hY, hX, hbl, hbN, hL, hR⟩ := LC
  have hx := S.1
  have hb := S.2.1
  obtain ⟨n, mb, jn, u, L9, W9, g9, hO, hp, hbr, ⟨hj, hj8, hu, hu8, hu4⟩, hT1, hT2, hT3, hT4⟩ := C.use
  have hn := W9.1.1
  have hn6 := W9.1.2.1
  refine lv_aload_n hx hb dL_law_1950 rfl (lv_at hl 2 rfl) ?_
  refine lsc (i := i) (k := 1) S hX hbl hbN hS (by omega) hL (lv_at hl 1 rfl) (lv_at hl 0 rfl) rfl ⟨dL_law_1951, dL_law_1952, dL_law_1954, dL_law_1955, dL_law_1956⟩ ?_
  refine lv_aload_n hx hb dL_law_1957 rfl (lv_at hl 4 rfl) ?_
  refine cSL (As := [.ref (ad 0), .int (xs (i + 1)), .ref qo]) S G (c_L_line l hY σ v w (xs (i + 1)) (c_X10_line l σ (xs (i + 1)) n mb hO cs hF hY hlt) (fun E τ h => PXd_1 h)) ck_line ml_RL_247 hP hS hl.1 ⟨by omega, by omega⟩ rfl rfl (Nat.le_of_ble_eq_true rfl) ⟨by omega, by omega⟩ dL_law_1958 (fun r τ v' w' H locs hq hP hS => ?_)
  obtain ⟨e0, k7, k8, k9⟩ := lin_c C W9 g9 hq
  refine lv_istore (lv' := (6, .int r) :: lvB b ad qo qd i) hx hb dL_law_1961 hl (by decide) rfl (fun ls hl => ?_)
  refine lv_aload_n hx hb dL_law_1963 rfl (lv_at hl 4 rfl) ?_
  refine lsc (i := i) (k := 1) S hX hbl hbN hS (by omega) hL (lv_at hl 2 rfl) (lv_at hl 1 rfl) rfl ⟨dL_law_1964, dL_law_1965, dL_law_1967, dL_law_1968, dL_law_1969⟩ ?_
  refine cVL (As := [.int (xs (i + 1))]) S (GI.x G) 276 (c_X11_line l τ (xs (i + 1)) n mb (by rw [e0]; exact W9.1) (by rw [e0]; exact ab_h W9)) ok_yX11_line ml_RL_249 (by decide) oM rfl hP hS hl.1 ⟨by omega, by omega⟩ rfl rfl (Nat.le_of_ble_eq_true rfl) ⟨by omega, by omega⟩ dL_law_1970 (fun r2 τ2 H locs hq2 hP hS => ?_)
  obtain ⟨f1, f2⟩ := hq2
  rw [f2] at hP
  refine lv_istore (lv' := (7, .int r2) :: (6, .int r) :: lvB b ad qo qd i) hx hb dL_law_1973 hl (by decide) rfl (fun ls hl => ?_)
  refine ltl S (GI.x G) hP hS hl hR ⟨by omega, by omega⟩ k7 (by rw [f1]; exact k8) ⟨dL_law_1975, dL_law_1976, dL_law_1979, dL_law_1981, dL_law_1986, dL_law_1988, dL_law_1991, dL_law_1992, dL_law_1993, dL_law_1994, dL_law_1996, dL_law_1997, dL_law_1998, dL_law_2003⟩ (by decide) (fun H locs hP hS hl => ?_)
  exact W.widen (by omega) (by omega) (kk _ _ _ H locs _ k9 hP hS hl)
set_option maxHeartbeats 1000000 in
set_option maxRecDepth 100000 in
/-- beams -/
theorem lw_32 (LC : LWC p l R s m args c ek cs N0 F b L xs) (G : GI D ct ek ad N0 (outX ct qo qd v w) F s) (hi : i + 3 < L) (hcs : cells + 3 ≤ R.cells ∧ slots + 18 ≤ R.slots) (C : CRel σ σ) (hP : wP D ct ek ad (outX ct qo qd v w) σ H) (hS : va_S (fr N0) s.heap H locs) (hl : lv_has ls 9 (lvB b ad qo qd i)) (kk : LWK p l e R s m args below meth c cells slots Q D ct ek ad N0 qo qd b i) : W p l e R s m args below meth c H locs cells slots Q (F0 m 2006 ls []) := by
  obtain ⟨S, hlt, hF, hY, hX, hbl, hbN, hL, hR⟩ := LC
  have hx := S.1
  have hb := S.2.1
  obtain ⟨n, mb, jn, u, L9, W9, g9, hO, hp, hbr, ⟨hj, hj8, hu, hu8, hu4⟩, hT1, hT2, hT3, hT4⟩ := C.use
  have hn := W9.1.1
  have hn6 := W9.1.2.1
  refine lv_aload_n hx hb dL_law_2006 rfl (lv_at hl 2 rfl) ?_
  refine cVL (As := []) S G 0 (c_X10_beams l σ n mb hO (bm_h W9 g9).1) ok_yX10_beams ml_RL_250 (by decide) oX rfl hP hS hl.1 ⟨by omega, by omega⟩ rfl rfl (Nat.le_of_ble_eq_true rfl) ⟨by omega, by omega⟩ dL_law_2007 (fun r τ H locs hq hP hS => ?_)
  obtain ⟨f1, f2⟩ := hq
  obtain ⟨e0, b0⟩ := bms_c C W9 f2
  obtain ⟨b1, b2⟩ := b0 e0
  refine lv_aload_n hx hb dL_law_2010 rfl (lv_at hl 3 rfl) ?_
  refine cVL (As := []) S G 276 (c_X11_beams l τ n mb (by rw [e0]; exact W9.1) (by rw [e0]; exact (bm_h W9 g9).2.1) (by rw [e0]; exact (bm_h W9 g9).2.2)) ok_yX11_beams ml_RL_253 (by decide) oM rfl hP hS hl.1 ⟨by omega, by omega⟩ rfl rfl (Nat.le_of_ble_eq_true rfl) ⟨by omega, by omega⟩ dL_law_2011 (fun r2 τ2 H locs hq2 hP hS => ?_)
  obtain ⟨g1, g2⟩ := hq2
  have k7 : r = r2 := (by rw [f1, ← f2, g1]; exact b1)
  have k9 : CRel τ2 τ2 := (by rw [g2]; exact b2)
  refine lv_icmp_eq (tgt := 2363) hx hb dL_law_2014 (by decide) (fun _ => ?_) (fun h => absurd k7 h)
  exact W.widen (by omega) (by omega) (kk _ _ _ H locs _ k9 hP hS hl)
set_option maxHeartbeats 1000000 in
set_option maxRecDepth 100000 in
/-- character -/
theorem lw_33 (LC : LWC p l R s m args c ek cs N0 F b L xs) (G : GI D ct ek ad N0 (outX ct qo qd v w) F s) (hi : i + 3 < L) (hcs : cells + 3 ≤ R.cells ∧ slots + 18 ≤ R.slots) (C : CRel σ σ) (hP : wP D ct ek ad (outX ct qo qd v w) σ H) (hS : va_S (fr N0) s.heap H locs) (hl : lv_has ls 9 (lvB b ad qo qd i)) (kk : LWK p l e R s m args below meth c cells slots Q D ct ek ad N0 qo qd b i) : W p l e R s m args below meth c H locs cells slots Q (F0 m 2019 ls []) := by
  obtain ⟨S, hlt, hF, hY, hX, hbl, hbN, hL, hR⟩ := LC
  have hx := S.1
  have hb := S.2.1
  obtain ⟨n, mb, jn, u, L9, W9, g9, hO, hp, hbr, ⟨hj, hj8, hu, hu8, hu4⟩, hT1, hT2, hT3, hT4⟩ := C.use
  have hn := W9.1.1
  have hn6 := W9.1.2.1
  obtain ⟨Ln, k1, k2, k3, k4, k5, k6⟩ := C.2.2.2.2.2.1
  refine lv_aload_n hx hb dL_law_2019 rfl (lv_at hl 2 rfl) ?_
  refine lsc (i := i) (k := 1) S hX hbl hbN hS (by omega) hL (lv_at hl 1 rfl) (lv_at hl 0 rfl) rfl ⟨dL_law_2020, dL_law_2021, dL_law_2023, dL_law_2024, dL_law_2025⟩ ?_
  refine lv_aload_n hx hb dL_law_2026 rfl (lv_at hl 4 rfl) ?_
  refine cSL (As := [.ref (ad 0), .int (xs (i + 1)), .ref qo]) S G (c_L_character l hY σ v w (xs (i + 1)) (c_X10_character l σ (xs (i + 1)) Ln k2 k1 k5 cs hF hY hlt) (fun E τ h => PXd_1 h)) ck_character ml_RL_254 hP hS hl.1 ⟨by omega, by omega⟩ rfl rfl (Nat.le_of_ble_eq_true rfl) ⟨by omega, by omega⟩ dL_law_2027 (fun r τ v' w' H locs hq hP hS => ?_)
  obtain ⟨e1, e2, e3⟩ := qA (by decide) (by decide) hq
  rw [e2] at hP
  refine lv_istore (lv' := (6, .int r) :: lvB b ad qo qd i) hx hb dL_law_2030 hl (by decide) rfl (fun ls hl => ?_)
  refine lv_aload_n hx hb dL_law_2032 rfl (lv_at hl 4 rfl) ?_
  refine lsc (i := i) (k := 1) S hX hbl hbN hS (by omega) hL (lv_at hl 2 rfl) (lv_at hl 1 rfl) rfl ⟨dL_law_2033, dL_law_2034, dL_law_2036, dL_law_2037, dL_law_2038⟩ ?_
  refine cVL (As := [.int (xs (i + 1))]) S (GI.x G) 276 (c_X11_character l σ (xs (i + 1)) Ln k3 (by omega) k6) ok_yX11_character ml_RL_256 (by decide) oM rfl hP hS hl.1 ⟨by omega, by omega⟩ rfl rfl (Nat.le_of_ble_eq_true rfl) ⟨by omega, by omega⟩ dL_law_2039 (fun r2 τ2 H locs hq2 hP hS => ?_)
  obtain ⟨f1, f2⟩ := hq2
  rw [f2] at hP
  obtain ⟨k7, k8, k9⟩ := qE C e1 e3 (q_chr C.2.2.2.2.2.1)
  refine lv_istore (lv' := (7, .int r2) :: (6, .int r) :: lvB b ad qo qd i) hx hb dL_law_2042 hl (by decide) rfl (fun ls hl => ?_)
  refine ltl S (GI.x G) hP hS hl hR ⟨by omega, by omega⟩ k7 (by rw [f1]; exact k8) ⟨dL_law_2044, dL_law_2045, dL_law_2048, dL_law_2050, dL_law_2055, dL_law_2057, dL_law_2060, dL_law_2061, dL_law_2062, dL_law_2063, dL_law_2065, dL_law_2066, dL_law_2067, dL_law_2072⟩ (by decide) (fun H locs hP hS hl => ?_)
  exact W.widen (by omega) (by omega) (kk _ _ _ H locs _ k9 hP hS hl)
set_option maxHeartbeats 1000000 in
set_option maxRecDepth 100000 in
/-- account -/
theorem lw_36 (LC : LWC p l R s m args c ek cs N0 F b L xs) (G : GI D ct ek ad N0 (outX ct qo qd v w) F s) (hi : i + 3 < L) (hcs : cells + 3 ≤ R.cells ∧ slots + 18 ≤ R.slots) (C : CRel σ σ) (hP : wP D ct ek ad (outX ct qo qd v w) σ H) (hS : va_S (fr N0) s.heap H locs) (hl : lv_has ls 9 (lvB b ad qo qd i)) (kk : LWK p l e R s m args below meth c cells slots Q D ct ek ad N0 qo qd b i) : W p l e R s m args below meth c H locs cells slots Q (F0 m 2206 ls []) := by
  obtain ⟨S, hlt, hF, hY, hX, hbl, hbN, hL, hR⟩ := LC
  have hx := S.1
  have hb := S.2.1
  obtain ⟨n, mb, jn, u, L9, W9, g9, hO, hp, hbr, ⟨hj, hj8, hu, hu8, hu4⟩, hT1, hT2, hT3, hT4⟩ := C.use
  have hn := W9.1.1
  have hn6 := W9.1.2.1
  refine lv_aload_n hx hb dL_law_2206 rfl (lv_at hl 2 rfl) ?_
  refine lsc (i := i) (k := 1) S hX hbl hbN hS (by omega) hL (lv_at hl 1 rfl) (lv_at hl 0 rfl) rfl ⟨dL_law_2207, dL_law_2208, dL_law_2210, dL_law_2211, dL_law_2212⟩ ?_
  refine lv_aload_n hx hb dL_law_2213 rfl (lv_at hl 4 rfl) ?_
  refine cSL (As := [.ref (ad 0), .int (xs (i + 1)), .ref qo]) S G (c_L_account l hY σ v w (xs (i + 1)) (c_X10_account l σ (xs (i + 1)) n mb hO cs hF hY hlt) (fun E τ h => PXd_1 h)) ck_account ml_RL_264 hP hS hl.1 ⟨by omega, by omega⟩ rfl rfl (Nat.le_of_ble_eq_true rfl) ⟨by omega, by omega⟩ dL_law_2214 (fun r τ v' w' H locs hq hP hS => ?_)
  obtain ⟨e1, e2, e3⟩ := qA (by decide) (by decide) hq
  rw [e2] at hP
  refine lv_istore (lv' := (6, .int r) :: lvB b ad qo qd i) hx hb dL_law_2217 hl (by decide) rfl (fun ls hl => ?_)
  refine lv_aload_n hx hb dL_law_2219 rfl (lv_at hl 4 rfl) ?_
  refine lsc (i := i) (k := 1) S hX hbl hbN hS (by omega) hL (lv_at hl 2 rfl) (lv_at hl 1 rfl) rfl ⟨dL_law_2220, dL_law_2221, dL_law_2223, dL_law_2224, dL_law_2225⟩ ?_
  refine cVL (As := [.int (xs (i + 1))]) S (GI.x G) 276 (c_X11_account l σ (xs (i + 1)) n hn hn6) ok_yX11_account ml_RL_266 (by decide) oM rfl hP hS hl.1 ⟨by omega, by omega⟩ rfl rfl (Nat.le_of_ble_eq_true rfl) ⟨by omega, by omega⟩ dL_law_2226 (fun r2 τ2 H locs hq2 hP hS => ?_)
  obtain ⟨f1, f2⟩ := hq2
  rw [f2] at hP
  obtain ⟨k7, k8, k9⟩ := qE C e1 e3 ⟨rfl, fun z => (q_acc C W9).resolve_right (fun h => h z)⟩
  refine lv_istore (lv' := (7, .int r2) :: (6, .int r) :: lvB b ad qo qd i) hx hb dL_law_2229 hl (by decide) rfl (fun ls hl => ?_)
  refine ltl S (GI.x G) hP hS hl hR ⟨by omega, by omega⟩ k7 (by rw [f1]; exact k8) ⟨dL_law_2231, dL_law_2232, dL_law_2235, dL_law_2237, dL_law_2242, dL_law_2244, dL_law_2247, dL_law_2248, dL_law_2249, dL_law_2250, dL_law_2252, dL_law_2253, dL_law_2254, dL_law_2259⟩ (by decide) (fun H locs hP hS hl => ?_)
  exact W.widen (by omega) (by omega) (kk _ _ _ H locs _ k9 hP hS hl)
set_option maxHeartbeats 1000000 in
set_option maxRecDepth 100000 in
/-- undo -/
theorem lw_37 (LC : LWC p l R s m args c ek cs N0 F b L xs) (G : GI D ct ek ad N0 (outX ct qo qd v w) F s) (hi : i + 3 < L) (hcs : cells + 3 ≤ R.cells ∧ slots + 18 ≤ R.slots) (C : CRel σ σ) (hP : wP D ct ek ad (outX ct qo qd v w) σ H) (hS : va_S (fr N0) s.heap H locs) (hl : lv_has ls 9 (lvB b ad qo qd i)) (kk : LWK p l e R s m args below meth c cells slots Q D ct ek ad N0 qo qd b i) : W p l e R s m args below meth c H locs cells slots Q (F0 m 2262 ls []) := by
  obtain ⟨S, hlt, hF, hY, hX, hbl, hbN, hL, hR⟩ := LC
  have hx := S.1
  have hb := S.2.1
  obtain ⟨n, mb, jn, u, L9, W9, g9, hO, hp, hbr, ⟨hj, hj8, hu, hu8, hu4⟩, hT1, hT2, hT3, hT4⟩ := C.use
  have hn := W9.1.1
  have hn6 := W9.1.2.1
  refine lv_aload_n hx hb dL_law_2262 rfl (lv_at hl 2 rfl) ?_
  refine lv_aload_n hx hb dL_law_2263 rfl (lv_at hl 4 rfl) ?_
  refine cSL (As := [.ref (ad 0), .ref qo]) S G (c_L_undo l hY σ v w (c_X10_undo l σ jn hj hj8 u hu hu8 C.2.1.2.2.2 cs hF hY hlt) (fun E τ h => PXd_1 h)) ck_undo ml_RL_267 hP hS hl.1 ⟨by omega, by omega⟩ rfl rfl (Nat.le_of_ble_eq_true rfl) ⟨by omega, by omega⟩ dL_law_2264 (fun r τ v' w' H locs hq hP hS => ?_)
  obtain ⟨h0, k7, k8, k9⟩ := und_w C hj hj8 hu hu8 hu4 hq
  refine lv_istore (lv' := (6, .int r) :: lvB b ad qo qd i) hx hb dL_law_2267 hl (by decide) rfl (fun ls hl => ?_)
  refine lv_aload_n hx hb dL_law_2269 rfl (lv_at hl 4 rfl) ?_
  refine cVL (As := []) S (GI.x G) 276 (c_X11_undo l τ u h0 hu8) ok_yX11_undo ml_RL_269 (by decide) oM rfl hP hS hl.1 ⟨by omega, by omega⟩ rfl rfl (Nat.le_of_ble_eq_true rfl) ⟨by omega, by omega⟩ dL_law_2270 (fun r2 τ2 H locs hq2 hP hS => ?_)
  obtain ⟨f1, f2⟩ := hq2
  rw [f2] at hP
  refine lv_istore (lv' := (7, .int r2) :: (6, .int r) :: lvB b ad qo qd i) hx hb dL_law_2273 hl (by decide) rfl (fun ls hl => ?_)
  refine ltl S (GI.x G) hP hS hl hR ⟨by omega, by omega⟩ k7 (by rw [f1]; exact k8) ⟨dL_law_2275, dL_law_2276, dL_law_2279, dL_law_2281, dL_law_2286, dL_law_2288, dL_law_2291, dL_law_2292, dL_law_2293, dL_law_2294, dL_law_2296, dL_law_2297, dL_law_2298, dL_law_2303⟩ (by decide) (fun H locs hP hS hl => ?_)
  exact W.widen (by omega) (by omega) (kk _ _ _ H locs _ k9 hP hS hl)
set_option maxHeartbeats 1000000 in
set_option maxRecDepth 100000 in
/-- save -/
theorem lw_38 (LC : LWC p l R s m args c ek cs N0 F b L xs) (G : GI D ct ek ad N0 (outX ct qo qd v w) F s) (hi : i + 3 < L) (hcs : cells + 3 ≤ R.cells ∧ slots + 18 ≤ R.slots) (C : CRel σ σ) (hP : wP D ct ek ad (outX ct qo qd v w) σ H) (hS : va_S (fr N0) s.heap H locs) (hl : lv_has ls 9 (lvB b ad qo qd i)) (kk : LWK p l e R s m args below meth c cells slots Q D ct ek ad N0 qo qd b i) : W p l e R s m args below meth c H locs cells slots Q (F0 m 2306 ls []) := by
  obtain ⟨S, hlt, hF, hY, hX, hbl, hbN, hL, hR⟩ := LC
  have hx := S.1
  have hb := S.2.1
  obtain ⟨n, mb, jn, u, L9, W9, g9, hO, hp, hbr, ⟨hj, hj8, hu, hu8, hu4⟩, hT1, hT2, hT3, hT4⟩ := C.use
  have hn := W9.1.1
  have hn6 := W9.1.2.1
  refine lv_aload_n hx hb dL_law_2306 rfl (lv_at hl 2 rfl) ?_
  refine cVL (As := []) S G 0 (c_X10_save l σ n mb hO) ok_yX10_save ml_RL_270 (by decide) oX rfl hP hS hl.1 ⟨by omega, by omega⟩ rfl rfl (Nat.le_of_ble_eq_true rfl) ⟨by omega, by omega⟩ dL_law_2307 (fun r τ H locs hq hP hS => ?_)
  obtain ⟨f1, f2⟩ := hq
  refine lv_aload_n hx hb dL_law_2310 rfl (lv_at hl 3 rfl) ?_
  refine cVL (As := []) S G 276 (c_X11_save l τ) ok_yX11_save ml_RL_273 (by decide) oM rfl hP hS hl.1 ⟨by omega, by omega⟩ rfl rfl (Nat.le_of_ble_eq_true rfl) ⟨by omega, by omega⟩ dL_law_2311 (fun r2 τ2 H locs hq2 hP hS => ?_)
  obtain ⟨g1, g2⟩ := hq2
  have k7 : r = r2 := (f2.trans (sav_c C f1 rfl).1).trans g1.symm
  have k9 : CRel τ2 τ2 := (by rw [g2]; exact (sav_c C f1 rfl).2)
  refine lv_icmp_eq (tgt := 2363) hx hb dL_law_2314 (by decide) (fun _ => ?_) (fun h => absurd k7 h)
  exact W.widen (by omega) (by omega) (kk _ _ _ H locs _ k9 hP hS hl)
set_option maxHeartbeats 1000000 in
set_option maxRecDepth 100000 in
/-- restore -/
theorem lw_39 (LC : LWC p l R s m args c ek cs N0 F b L xs) (G : GI D ct ek ad N0 (outX ct qo qd v w) F s) (hi : i + 3 < L) (hcs : cells + 3 ≤ R.cells ∧ slots + 18 ≤ R.slots) (C : CRel σ σ) (hP : wP D ct ek ad (outX ct qo qd v w) σ H) (hS : va_S (fr N0) s.heap H locs) (hl : lv_has ls 9 (lvB b ad qo qd i)) (kk : LWK p l e R s m args below meth c cells slots Q D ct ek ad N0 qo qd b i) : W p l e R s m args below meth c H locs cells slots Q (F0 m 2319 ls []) := by
  obtain ⟨S, hlt, hF, hY, hX, hbl, hbN, hL, hR⟩ := LC
  have hx := S.1
  have hb := S.2.1
  obtain ⟨n, mb, jn, u, L9, W9, g9, hO, hp, hbr, ⟨hj, hj8, hu, hu8, hu4⟩, hT1, hT2, hT3, hT4⟩ := C.use
  have hn := W9.1.1
  have hn6 := W9.1.2.1
  refine lv_aload_n hx hb dL_law_2319 rfl (lv_at hl 2 rfl) ?_
  refine lv_aload_n hx hb dL_law_2320 rfl (lv_at hl 4 rfl) ?_
  refine cSL (As := [.ref (ad 0), .ref qo]) S G (c_L_restore l hY σ v w (c_X10_restore l σ C.2.1.2.2.1 cs hF hY hlt) (fun E τ h => PXd_1 h)) ck_restore ml_RL_274 hP hS hl.1 ⟨by omega, by omega⟩ rfl rfl (Nat.le_of_ble_eq_true rfl) ⟨by omega, by omega⟩ dL_law_2321 (fun r τ v' w' H locs hq hP hS => ?_)
  obtain ⟨k7, k8, k9⟩ := rst_w C hq
  refine lv_istore (lv' := (6, .int r) :: lvB b ad qo qd i) hx hb dL_law_2324 hl (by decide) rfl (fun ls hl => ?_)
  refine lv_aload_n hx hb dL_law_2326 rfl (lv_at hl 4 rfl) ?_
  refine cVL (As := []) S (GI.x G) 276 (c_X11_restore l τ) ok_yX11_restore ml_RL_276 (by decide) oM rfl hP hS hl.1 ⟨by omega, by omega⟩ rfl rfl (Nat.le_of_ble_eq_true rfl) ⟨by omega, by omega⟩ dL_law_2327 (fun r2 τ2 H locs hq2 hP hS => ?_)
  obtain ⟨f1, f2⟩ := hq2
  rw [f2] at hP
  refine lv_istore (lv' := (7, .int r2) :: (6, .int r) :: lvB b ad qo qd i) hx hb dL_law_2330 hl (by decide) rfl (fun ls hl => ?_)
  refine ltl S (GI.x G) hP hS hl hR ⟨by omega, by omega⟩ k7 (by rw [f1]; exact k8) ⟨dL_law_2332, dL_law_2333, dL_law_2336, dL_law_2338, dL_law_2343, dL_law_2345, dL_law_2348, dL_law_2349, dL_law_2350, dL_law_2351, dL_law_2353, dL_law_2354, dL_law_2355, dL_law_2360⟩ (by decide) (fun H locs hP hS hl => ?_)
  exact W.widen (by omega) (by omega) (kk _ _ _ H locs _ k9 hP hS hl)
end LLC

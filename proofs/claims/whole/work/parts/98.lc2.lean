/-! the law's cases (laid by wip/whole/spec_loop.py) -/
section LLC
variable {p : Program} {l : Launch} {e : Env} {R : Room} {s : State} {m : MethodId} {args : Array Value} {below : List Frame} {meth : Method} {c : Code} {H : Heap} {locs : List Loc} {cells slots : Nat} {Q : State → Prop}
variable {ls : Array Slot} {D : va_G} {ct : Nat → ClassId} {ek ad cs : Nat → Nat} {N0 qo qd : Nat} {F : State → Prop} {σ : Mem} {v : Nat → Int64} {w : Nat → UInt64} {b L i : Nat} {xs : Nat → Int32}
set_option maxHeartbeats 1000000 in
set_option maxRecDepth 100000 in
/-- lean -/
theorem lw_10 (LC : LWC p l R s m args c ek cs N0 F b L xs) (G : GI D ct ek ad N0 (outX ct qo qd v w) F s) (hi : i + 3 < L) (hcs : cells + 3 ≤ R.cells ∧ slots + 18 ≤ R.slots) (C : CRel σ σ) (hP : wP D ct ek ad (outX ct qo qd v w) σ H) (hS : va_S (fr N0) s.heap H locs) (hl : lv_has ls 9 (lvB b ad qo qd i)) (kk : LWK p l e R s m args below meth c cells slots Q D ct ek ad N0 qo qd b i) : W p l e R s m args below meth c H locs cells slots Q (F0 m 904 ls []) := by
  obtain ⟨S, hlt, hF, hY, hX, hbl, hbN, hL, hR⟩ := LC
  have hx := S.1
  have hb := S.2.1
  obtain ⟨n, mb, jn, u, L9, W9, g9, hO, hp, hbr, ⟨hj, hj8, hu, hu8, hu4⟩, hT1, hT2, hT3, hT4⟩ := C.use
  have hn := W9.1.1
  have hn6 := W9.1.2.1
  refine lv_aload_n hx hb dL_law_904 rfl (lv_at hl 2 rfl) ?_
  refine lsc (i := i) (k := 1) S hX hbl hbN hS (by omega) hL (lv_at hl 1 rfl) (lv_at hl 0 rfl) rfl ⟨dL_law_905, dL_law_906, dL_law_908, dL_law_909, dL_law_910⟩ ?_
  refine lv_aload_n hx hb dL_law_911 rfl (lv_at hl 4 rfl) ?_
  refine cSL (As := [.ref (ad 0), .int (xs (i + 1)), .ref qo]) S G (c_L_lean l hY σ v w (xs (i + 1)) (c_X10_lean l σ (xs (i + 1)) n mb hO cs hF hY hlt) (fun E τ h => PXd_1 h)) ck_lean ml_RL_177 hP hS hl.1 ⟨by omega, by omega⟩ rfl rfl (Nat.le_of_ble_eq_true rfl) ⟨by omega, by omega⟩ dL_law_912 (fun r τ v' w' H locs hq hP hS => ?_)
  obtain ⟨e1, e2, e3⟩ := qA (by decide) (by decide) hq
  rw [e2] at hP
  refine lv_istore (lv' := (6, .int r) :: lvB b ad qo qd i) hx hb dL_law_915 hl (by decide) rfl (fun ls hl => ?_)
  refine lv_aload_n hx hb dL_law_917 rfl (lv_at hl 4 rfl) ?_
  refine lsc (i := i) (k := 1) S hX hbl hbN hS (by omega) hL (lv_at hl 2 rfl) (lv_at hl 1 rfl) rfl ⟨dL_law_918, dL_law_919, dL_law_921, dL_law_922, dL_law_923⟩ ?_
  refine cVL (As := [.int (xs (i + 1))]) S (GI.x G) 276 (c_X11_lean l σ (xs (i + 1)) n hn hn6) ok_yX11_lean ml_RL_179 (by decide) oM rfl hP hS hl.1 ⟨by omega, by omega⟩ rfl rfl (Nat.le_of_ble_eq_true rfl) ⟨by omega, by omega⟩ dL_law_924 (fun r2 τ2 H locs hq2 hP hS => ?_)
  obtain ⟨f1, f2⟩ := hq2
  rw [f2] at hP
  obtain ⟨k7, k8, k9⟩ := qE C e1 e3 ⟨q_np W9 g9, q_1 W9 g9 (fun h5 h6 => q_lean g9 h6)⟩
  refine lv_istore (lv' := (7, .int r2) :: (6, .int r) :: lvB b ad qo qd i) hx hb dL_law_927 hl (by decide) rfl (fun ls hl => ?_)
  refine ltl S (GI.x G) hP hS hl hR ⟨by omega, by omega⟩ k7 (by rw [f1]; exact k8) ⟨dL_law_929, dL_law_930, dL_law_933, dL_law_935, dL_law_940, dL_law_942, dL_law_945, dL_law_946, dL_law_947, dL_law_948, dL_law_950, dL_law_951, dL_law_952, dL_law_957⟩ (by decide) (fun H locs hP hS hl => ?_)
  exact W.widen (by omega) (by omega) (kk _ _ _ H locs _ k9 hP hS hl)
set_option maxHeartbeats 1000000 in
set_option maxRecDepth 100000 in
/-- mean -/
theorem lw_11 (LC : LWC p l R s m args c ek cs N0 F b L xs) (G : GI D ct ek ad N0 (outX ct qo qd v w) F s) (hi : i + 3 < L) (hcs : cells + 3 ≤ R.cells ∧ slots + 18 ≤ R.slots) (C : CRel σ σ) (hP : wP D ct ek ad (outX ct qo qd v w) σ H) (hS : va_S (fr N0) s.heap H locs) (hl : lv_has ls 9 (lvB b ad qo qd i)) (kk : LWK p l e R s m args below meth c cells slots Q D ct ek ad N0 qo qd b i) : W p l e R s m args below meth c H locs cells slots Q (F0 m 960 ls []) := by
  obtain ⟨S, hlt, hF, hY, hX, hbl, hbN, hL, hR⟩ := LC
  have hx := S.1
  have hb := S.2.1
  obtain ⟨n, mb, jn, u, L9, W9, g9, hO, hp, hbr, ⟨hj, hj8, hu, hu8, hu4⟩, hT1, hT2, hT3, hT4⟩ := C.use
  have hn := W9.1.1
  have hn6 := W9.1.2.1
  refine lv_aload_n hx hb dL_law_960 rfl (lv_at hl 2 rfl) ?_
  refine lsc (i := i) (k := 1) S hX hbl hbN hS (by omega) hL (lv_at hl 1 rfl) (lv_at hl 0 rfl) rfl ⟨dL_law_961, dL_law_962, dL_law_964, dL_law_965, dL_law_966⟩ ?_
  refine lv_aload_n hx hb dL_law_967 rfl (lv_at hl 4 rfl) ?_
  refine cSL (As := [.ref (ad 0), .int (xs (i + 1)), .ref qo]) S G (c_L_mean l hY σ v w (xs (i + 1)) (c_X10_mean l σ (xs (i + 1)) n mb hO cs hF hY hlt) (fun E τ h => PXd_1 h)) ck_mean ml_RL_180 hP hS hl.1 ⟨by omega, by omega⟩ rfl rfl (Nat.le_of_ble_eq_true rfl) ⟨by omega, by omega⟩ dL_law_968 (fun r τ v' w' H locs hq hP hS => ?_)
  obtain ⟨e1, e2, e3⟩ := qA (by decide) (by decide) hq
  rw [e2] at hP
  refine lv_istore (lv' := (6, .int r) :: lvB b ad qo qd i) hx hb dL_law_971 hl (by decide) rfl (fun ls hl => ?_)
  refine lv_aload_n hx hb dL_law_973 rfl (lv_at hl 4 rfl) ?_
  refine lsc (i := i) (k := 1) S hX hbl hbN hS (by omega) hL (lv_at hl 2 rfl) (lv_at hl 1 rfl) rfl ⟨dL_law_974, dL_law_975, dL_law_977, dL_law_978, dL_law_979⟩ ?_
  refine cVL (As := [.int (xs (i + 1))]) S (GI.x G) 276 (c_X11_mean l σ (xs (i + 1)) n mb W9.1) ok_yX11_mean ml_RL_182 (by decide) oM rfl hP hS hl.1 ⟨by omega, by omega⟩ rfl rfl (Nat.le_of_ble_eq_true rfl) ⟨by omega, by omega⟩ dL_law_980 (fun r2 τ2 H locs hq2 hP hS => ?_)
  obtain ⟨f1, f2⟩ := hq2
  rw [f2] at hP
  obtain ⟨k7, k8, k9⟩ := qE C e1 e3 ⟨q_np W9 g9, q_1 W9 g9 (fun h5 h6 => pr_mean hp W9.1 h6)⟩
  refine lv_istore (lv' := (7, .int r2) :: (6, .int r) :: lvB b ad qo qd i) hx hb dL_law_983 hl (by decide) rfl (fun ls hl => ?_)
  refine ltl S (GI.x G) hP hS hl hR ⟨by omega, by omega⟩ k7 (by rw [f1]; exact k8) ⟨dL_law_985, dL_law_986, dL_law_989, dL_law_991, dL_law_996, dL_law_998, dL_law_1001, dL_law_1002, dL_law_1003, dL_law_1004, dL_law_1006, dL_law_1007, dL_law_1008, dL_law_1013⟩ (by decide) (fun H locs hP hS hl => ?_)
  exact W.widen (by omega) (by omega) (kk _ _ _ H locs _ k9 hP hS hl)
set_option maxHeartbeats 1000000 in
set_option maxRecDepth 100000 in
/-- meanAgain -/
theorem lw_12 (LC : LWC p l R s m args c ek cs N0 F b L xs) (G : GI D ct ek ad N0 (outX ct qo qd v w) F s) (hi : i + 3 < L) (hcs : cells + 3 ≤ R.cells ∧ slots + 18 ≤ R.slots) (C : CRel σ σ) (hP : wP D ct ek ad (outX ct qo qd v w) σ H) (hS : va_S (fr N0) s.heap H locs) (hl : lv_has ls 9 (lvB b ad qo qd i)) (kk : LWK p l e R s m args below meth c cells slots Q D ct ek ad N0 qo qd b i) : W p l e R s m args below meth c H locs cells slots Q (F0 m 1016 ls []) := by
  obtain ⟨S, hlt, hF, hY, hX, hbl, hbN, hL, hR⟩ := LC
  have hx := S.1
  have hb := S.2.1
  obtain ⟨n, mb, jn, u, L9, W9, g9, hO, hp, hbr, ⟨hj, hj8, hu, hu8, hu4⟩, hT1, hT2, hT3, hT4⟩ := C.use
  have hn := W9.1.1
  have hn6 := W9.1.2.1
  refine lv_aload_n hx hb dL_law_1016 rfl (lv_at hl 2 rfl) ?_
  refine lsc (i := i) (k := 1) S hX hbl hbN hS (by omega) hL (lv_at hl 1 rfl) (lv_at hl 0 rfl) rfl ⟨dL_law_1017, dL_law_1018, dL_law_1020, dL_law_1021, dL_law_1022⟩ ?_
  refine lv_aload_n hx hb dL_law_1023 rfl (lv_at hl 4 rfl) ?_
  refine cSL (As := [.ref (ad 0), .int (xs (i + 1)), .ref qo]) S G (c_L_meanAgain l hY σ v w (xs (i + 1)) (c_X10_meanAgain l σ (xs (i + 1)) n mb hO (fun q => tN (if q = tN (xs (i + 1)) then σ (1 + 1 + 2) (tN (xs (i + 1))) + 1 else σ (1 + 1 + 7 + tN (xs (i + 1))) q)) (fun h => (aga_h W9 g9 (hB_p W9 g9 h)).1) (fun h => (aga_h W9 g9 (hB_p W9 g9 h)).2) cs hF hY hlt) (fun E τ h => PXd_1 h)) ck_meanAgain ml_RL_183 hP hS hl.1 ⟨by omega, by omega⟩ rfl rfl (Nat.le_of_ble_eq_true rfl) ⟨by omega, by omega⟩ dL_law_1024 (fun r τ v' w' H locs hq hP hS => ?_)
  obtain ⟨e1, e2, e3⟩ := qA (by decide) (by decide) hq
  rw [e2] at hP
  refine lv_istore (lv' := (6, .int r) :: lvB b ad qo qd i) hx hb dL_law_1027 hl (by decide) rfl (fun ls hl => ?_)
  refine lv_aload_n hx hb dL_law_1029 rfl (lv_at hl 4 rfl) ?_
  refine lsc (i := i) (k := 1) S hX hbl hbN hS (by omega) hL (lv_at hl 2 rfl) (lv_at hl 1 rfl) rfl ⟨dL_law_1030, dL_law_1031, dL_law_1033, dL_law_1034, dL_law_1035⟩ ?_
  refine cVL (As := [.int (xs (i + 1))]) S (GI.x G) 276 (c_X11_meanAgain l σ (xs (i + 1)) n mb W9.1) ok_yX11_meanAgain ml_RL_185 (by decide) oM rfl hP hS hl.1 ⟨by omega, by omega⟩ rfl rfl (Nat.le_of_ble_eq_true rfl) ⟨by omega, by omega⟩ dL_law_1036 (fun r2 τ2 H locs hq2 hP hS => ?_)
  obtain ⟨f1, f2⟩ := hq2
  rw [f2] at hP
  obtain ⟨k7, k8, k9⟩ := qE C e1 e3 ⟨q_np W9 g9, q_1 W9 g9 (fun h5 h6 => aga_e W9 g9 h5)⟩
  refine lv_istore (lv' := (7, .int r2) :: (6, .int r) :: lvB b ad qo qd i) hx hb dL_law_1039 hl (by decide) rfl (fun ls hl => ?_)
  refine ltl S (GI.x G) hP hS hl hR ⟨by omega, by omega⟩ k7 (by rw [f1]; exact k8) ⟨dL_law_1041, dL_law_1042, dL_law_1045, dL_law_1047, dL_law_1052, dL_law_1054, dL_law_1057, dL_law_1058, dL_law_1059, dL_law_1060, dL_law_1062, dL_law_1063, dL_law_1064, dL_law_1069⟩ (by decide) (fun H locs hP hS hl => ?_)
  exact W.widen (by omega) (by omega) (kk _ _ _ H locs _ k9 hP hS hl)
set_option maxHeartbeats 1000000 in
set_option maxRecDepth 100000 in
/-- wouldMove -/
theorem lw_13 (LC : LWC p l R s m args c ek cs N0 F b L xs) (G : GI D ct ek ad N0 (outX ct qo qd v w) F s) (hi : i + 3 < L) (hcs : cells + 3 ≤ R.cells ∧ slots + 18 ≤ R.slots) (C : CRel σ σ) (hP : wP D ct ek ad (outX ct qo qd v w) σ H) (hS : va_S (fr N0) s.heap H locs) (hl : lv_has ls 9 (lvB b ad qo qd i)) (kk : LWK p l e R s m args below meth c cells slots Q D ct ek ad N0 qo qd b i) : W p l e R s m args below meth c H locs cells slots Q (F0 m 1072 ls []) := by
  obtain ⟨S, hlt, hF, hY, hX, hbl, hbN, hL, hR⟩ := LC
  have hx := S.1
  have hb := S.2.1
  obtain ⟨n, mb, jn, u, L9, W9, g9, hO, hp, hbr, ⟨hj, hj8, hu, hu8, hu4⟩, hT1, hT2, hT3, hT4⟩ := C.use
  have hn := W9.1.1
  have hn6 := W9.1.2.1
  refine lv_aload_n hx hb dL_law_1072 rfl (lv_at hl 2 rfl) ?_
  refine lsc (i := i) (k := 1) S hX hbl hbN hS (by omega) hL (lv_at hl 1 rfl) (lv_at hl 0 rfl) rfl ⟨dL_law_1073, dL_law_1074, dL_law_1076, dL_law_1077, dL_law_1078⟩ ?_
  refine lv_aload_n hx hb dL_law_1079 rfl (lv_at hl 4 rfl) ?_
  refine cSL (As := [.ref (ad 0), .int (xs (i + 1)), .ref qo]) S G (c_L_wouldMove l hY σ v w (xs (i + 1)) (c_X10_wouldMove l σ (xs (i + 1)) n mb hO cs hF hY hlt) (fun E τ h => PXd_1 h)) ck_wouldMove ml_RL_186 hP hS hl.1 ⟨by omega, by omega⟩ rfl rfl (Nat.le_of_ble_eq_true rfl) ⟨by omega, by omega⟩ dL_law_1080 (fun r τ v' w' H locs hq hP hS => ?_)
  obtain ⟨e1, e2, e3⟩ := qA (by decide) (by decide) hq
  rw [e2] at hP
  refine lv_istore (lv' := (6, .int r) :: lvB b ad qo qd i) hx hb dL_law_1083 hl (by decide) rfl (fun ls hl => ?_)
  refine lv_aload_n hx hb dL_law_1085 rfl (lv_at hl 4 rfl) ?_
  refine lsc (i := i) (k := 1) S hX hbl hbN hS (by omega) hL (lv_at hl 2 rfl) (lv_at hl 1 rfl) rfl ⟨dL_law_1086, dL_law_1087, dL_law_1089, dL_law_1090, dL_law_1091⟩ ?_
  refine cVL (As := [.int (xs (i + 1))]) S (GI.x G) 276 (c_X11_wouldMove l σ (xs (i + 1)) n mb W9.1) ok_yX11_wouldMove ml_RL_188 (by decide) oM rfl hP hS hl.1 ⟨by omega, by omega⟩ rfl rfl (Nat.le_of_ble_eq_true rfl) ⟨by omega, by omega⟩ dL_law_1092 (fun r2 τ2 H locs hq2 hP hS => ?_)
  obtain ⟨f1, f2⟩ := hq2
  rw [f2] at hP
  obtain ⟨k7, k8, k9⟩ := qE C e1 e3 ⟨q_np W9 g9, q_1 W9 g9 (fun h5 h6 => pr_move hp W9.1 W9.2.1 h6)⟩
  refine lv_istore (lv' := (7, .int r2) :: (6, .int r) :: lvB b ad qo qd i) hx hb dL_law_1095 hl (by decide) rfl (fun ls hl => ?_)
  refine ltl S (GI.x G) hP hS hl hR ⟨by omega, by omega⟩ k7 (by rw [f1]; exact k8) ⟨dL_law_1097, dL_law_1098, dL_law_1101, dL_law_1103, dL_law_1108, dL_law_1110, dL_law_1113, dL_law_1114, dL_law_1115, dL_law_1116, dL_law_1118, dL_law_1119, dL_law_1120, dL_law_1125⟩ (by decide) (fun H locs hP hS hl => ?_)
  exact W.widen (by omega) (by omega) (kk _ _ _ H locs _ k9 hP hS hl)
set_option maxHeartbeats 1000000 in
set_option maxRecDepth 100000 in
/-- puller -/
theorem lw_14 (LC : LWC p l R s m args c ek cs N0 F b L xs) (G : GI D ct ek ad N0 (outX ct qo qd v w) F s) (hi : i + 3 < L) (hcs : cells + 3 ≤ R.cells ∧ slots + 18 ≤ R.slots) (C : CRel σ σ) (hP : wP D ct ek ad (outX ct qo qd v w) σ H) (hS : va_S (fr N0) s.heap H locs) (hl : lv_has ls 9 (lvB b ad qo qd i)) (kk : LWK p l e R s m args below meth c cells slots Q D ct ek ad N0 qo qd b i) : W p l e R s m args below meth c H locs cells slots Q (F0 m 1128 ls []) := by
  obtain ⟨S, hlt, hF, hY, hX, hbl, hbN, hL, hR⟩ := LC
  have hx := S.1
  have hb := S.2.1
  obtain ⟨n, mb, jn, u, L9, W9, g9, hO, hp, hbr, ⟨hj, hj8, hu, hu8, hu4⟩, hT1, hT2, hT3, hT4⟩ := C.use
  have hn := W9.1.1
  have hn6 := W9.1.2.1
  refine lv_aload_n hx hb dL_law_1128 rfl (lv_at hl 2 rfl) ?_
  refine lsc (i := i) (k := 1) S hX hbl hbN hS (by omega) hL (lv_at hl 1 rfl) (lv_at hl 0 rfl) rfl ⟨dL_law_1129, dL_law_1130, dL_law_1132, dL_law_1133, dL_law_1134⟩ ?_
  refine lv_aload_n hx hb dL_law_1135 rfl (lv_at hl 4 rfl) ?_
  refine cSL (As := [.ref (ad 0), .int (xs (i + 1)), .ref qo]) S G (c_L_puller l hY σ v w (xs (i + 1)) (c_X10_puller l σ (xs (i + 1)) n mb hO cs hF hY hlt) (fun E τ h => PXd_2 h)) ck_puller ml_RL_189 hP hS hl.1 ⟨by omega, by omega⟩ rfl rfl (Nat.le_of_ble_eq_true rfl) ⟨by omega, by omega⟩ dL_law_1136 (fun r τ v' w' H locs hq hP hS => ?_)
  obtain ⟨e1, e2, e3⟩ := qA (by decide) (by decide) hq
  rw [e2] at hP
  refine lv_istore (lv' := (6, .int r) :: lvB b ad qo qd i) hx hb dL_law_1139 hl (by decide) rfl (fun ls hl => ?_)
  refine lv_aload_n hx hb dL_law_1141 rfl (lv_at hl 4 rfl) ?_
  refine lsc (i := i) (k := 1) S hX hbl hbN hS (by omega) hL (lv_at hl 2 rfl) (lv_at hl 1 rfl) rfl ⟨dL_law_1142, dL_law_1143, dL_law_1145, dL_law_1146, dL_law_1147⟩ ?_
  refine cVL (As := [.int (xs (i + 1))]) S (GI.x G) 276 (c_X11_puller l σ (xs (i + 1)) n hn hn6) ok_yX11_puller ml_RL_191 (by decide) oM rfl hP hS hl.1 ⟨by omega, by omega⟩ rfl rfl (Nat.le_of_ble_eq_true rfl) ⟨by omega, by omega⟩ dL_law_1148 (fun r2 τ2 H locs hq2 hP hS => ?_)
  obtain ⟨f1, f2⟩ := hq2
  rw [f2] at hP
  obtain ⟨k7, k8, k9⟩ := qE C e1 e3 (q_pul W9 g9)
  refine lv_istore (lv' := (7, .int r2) :: (6, .int r) :: lvB b ad qo qd i) hx hb dL_law_1151 hl (by decide) rfl (fun ls hl => ?_)
  refine ltl S (GI.x G) hP hS hl hR ⟨by omega, by omega⟩ k7 (by rw [f1]; exact k8) ⟨dL_law_1153, dL_law_1154, dL_law_1157, dL_law_1159, dL_law_1164, dL_law_1166, dL_law_1169, dL_law_1170, dL_law_1171, dL_law_1172, dL_law_1174, dL_law_1175, dL_law_1176, dL_law_1181⟩ (by decide) (fun H locs hP hS hl => ?_)
  exact W.widen (by omega) (by omega) (kk _ _ _ H locs _ k9 hP hS hl)
set_option maxHeartbeats 1000000 in
set_option maxRecDepth 100000 in
/-- force -/
theorem lw_15 (LC : LWC p l R s m args c ek cs N0 F b L xs) (G : GI D ct ek ad N0 (outX ct qo qd v w) F s) (hi : i + 3 < L) (hcs : cells + 3 ≤ R.cells ∧ slots + 18 ≤ R.slots) (C : CRel σ σ) (hP : wP D ct ek ad (outX ct qo qd v w) σ H) (hS : va_S (fr N0) s.heap H locs) (hl : lv_has ls 9 (lvB b ad qo qd i)) (kk : LWK p l e R s m args below meth c cells slots Q D ct ek ad N0 qo qd b i) : W p l e R s m args below meth c H locs cells slots Q (F0 m 1184 ls []) := by
  obtain ⟨S, hlt, hF, hY, hX, hbl, hbN, hL, hR⟩ := LC
  have hx := S.1
  have hb := S.2.1
  obtain ⟨n, mb, jn, u, L9, W9, g9, hO, hp, hbr, ⟨hj, hj8, hu, hu8, hu4⟩, hT1, hT2, hT3, hT4⟩ := C.use
  have hn := W9.1.1
  have hn6 := W9.1.2.1
  refine lv_aload_n hx hb dL_law_1184 rfl (lv_at hl 2 rfl) ?_
  refine lsc (i := i) (k := 1) S hX hbl hbN hS (by omega) hL (lv_at hl 1 rfl) (lv_at hl 0 rfl) rfl ⟨dL_law_1185, dL_law_1186, dL_law_1188, dL_law_1189, dL_law_1190⟩ ?_
  refine lsc (i := i) (k := 2) S hX hbl hbN hS (by omega) hL (lv_at hl 1 rfl) (lv_at hl 0 rfl) rfl ⟨dL_law_1191, dL_law_1192, dL_law_1194, dL_law_1195, dL_law_1196⟩ ?_
  refine lv_aload_n hx hb dL_law_1197 rfl (lv_at hl 4 rfl) ?_
  refine cSL (As := [.ref (ad 0), .int (xs (i + 1)), .int (xs (i + 2)), .ref qo]) S G (c_L_force l hY σ v w (xs (i + 1)) (xs (i + 2)) (c_X10_force l σ (xs (i + 1)) (xs (i + 2)) n mb hO cs hF hY hlt) (fun E τ h => PXd_2 h)) ck_force ml_RL_192 hP hS hl.1 ⟨by omega, by omega⟩ rfl rfl (Nat.le_of_ble_eq_true rfl) ⟨by omega, by omega⟩ dL_law_1198 (fun r τ v' w' H locs hq hP hS => ?_)
  obtain ⟨e1, e2, e3⟩ := qA (by decide) (by decide) hq
  rw [e2] at hP
  refine lv_istore (lv' := (6, .int r) :: lvB b ad qo qd i) hx hb dL_law_1201 hl (by decide) rfl (fun ls hl => ?_)
  refine lv_aload_n hx hb dL_law_1203 rfl (lv_at hl 4 rfl) ?_
  refine lsc (i := i) (k := 1) S hX hbl hbN hS (by omega) hL (lv_at hl 2 rfl) (lv_at hl 1 rfl) rfl ⟨dL_law_1204, dL_law_1205, dL_law_1207, dL_law_1208, dL_law_1209⟩ ?_
  refine lsc (i := i) (k := 2) S hX hbl hbN hS (by omega) hL (lv_at hl 2 rfl) (lv_at hl 1 rfl) rfl ⟨dL_law_1210, dL_law_1211, dL_law_1213, dL_law_1214, dL_law_1215⟩ ?_
  refine cVL (As := [.int (xs (i + 1)), .int (xs (i + 2))]) S (GI.x G) 276 (c_X11_force l σ (xs (i + 1)) (xs (i + 2)) n hn hn6) ok_yX11_force ml_RL_194 (by decide) oM rfl hP hS hl.1 ⟨by omega, by omega⟩ rfl rfl (Nat.le_of_ble_eq_true rfl) ⟨by omega, by omega⟩ dL_law_1216 (fun r2 τ2 H locs hq2 hP hS => ?_)
  obtain ⟨f1, f2⟩ := hq2
  rw [f2] at hP
  obtain ⟨k7, k8, k9⟩ := qE C e1 e3 (q_fce W9 g9)
  refine lv_istore (lv' := (7, .int r2) :: (6, .int r) :: lvB b ad qo qd i) hx hb dL_law_1219 hl (by decide) rfl (fun ls hl => ?_)
  refine ltl S (GI.x G) hP hS hl hR ⟨by omega, by omega⟩ k7 (by rw [f1]; exact k8) ⟨dL_law_1221, dL_law_1222, dL_law_1225, dL_law_1227, dL_law_1232, dL_law_1234, dL_law_1237, dL_law_1238, dL_law_1239, dL_law_1240, dL_law_1242, dL_law_1243, dL_law_1244, dL_law_1249⟩ (by decide) (fun H locs hP hS hl => ?_)
  exact W.widen (by omega) (by omega) (kk _ _ _ H locs _ k9 hP hS hl)
set_option maxHeartbeats 1000000 in
set_option maxRecDepth 100000 in
/-- factsFor -/
theorem lw_16 (LC : LWC p l R s m args c ek cs N0 F b L xs) (G : GI D ct ek ad N0 (outX ct qo qd v w) F s) (hi : i + 3 < L) (hcs : cells + 3 ≤ R.cells ∧ slots + 18 ≤ R.slots) (C : CRel σ σ) (hP : wP D ct ek ad (outX ct qo qd v w) σ H) (hS : va_S (fr N0) s.heap H locs) (hl : lv_has ls 9 (lvB b ad qo qd i)) (kk : LWK p l e R s m args below meth c cells slots Q D ct ek ad N0 qo qd b i) : W p l e R s m args below meth c H locs cells slots Q (F0 m 1252 ls []) := by
  obtain ⟨S, hlt, hF, hY, hX, hbl, hbN, hL, hR⟩ := LC
  have hx := S.1
  have hb := S.2.1
  obtain ⟨n, mb, jn, u, L9, W9, g9, hO, hp, hbr, ⟨hj, hj8, hu, hu8, hu4⟩, hT1, hT2, hT3, hT4⟩ := C.use
  have hn := W9.1.1
  have hn6 := W9.1.2.1
  refine lv_aload_n hx hb dL_law_1252 rfl (lv_at hl 2 rfl) ?_
  refine lsc (i := i) (k := 1) S hX hbl hbN hS (by omega) hL (lv_at hl 1 rfl) (lv_at hl 0 rfl) rfl ⟨dL_law_1253, dL_law_1254, dL_law_1256, dL_law_1257, dL_law_1258⟩ ?_
  refine lsc (i := i) (k := 2) S hX hbl hbN hS (by omega) hL (lv_at hl 1 rfl) (lv_at hl 0 rfl) rfl ⟨dL_law_1259, dL_law_1260, dL_law_1262, dL_law_1263, dL_law_1264⟩ ?_
  refine lv_aload_n hx hb dL_law_1265 rfl (lv_at hl 4 rfl) ?_
  refine cSL (As := [.ref (ad 0), .int (xs (i + 1)), .int (xs (i + 2)), .ref qo]) S G (c_L_factsFor l hY σ v w (xs (i + 1)) (xs (i + 2)) (c_X10_factsFor l σ (xs (i + 1)) (xs (i + 2)) n mb hO cs hF hY hlt) (fun E τ h => PXd_3 h)) ck_factsFor ml_RL_195 hP hS hl.1 ⟨by omega, by omega⟩ rfl rfl (Nat.le_of_ble_eq_true rfl) ⟨by omega, by omega⟩ dL_law_1266 (fun r τ v' w' H locs hq hP hS => ?_)
  obtain ⟨e1, e2, e3⟩ := qA (by decide) (by decide) hq
  rw [e2] at hP
  refine lv_istore (lv' := (6, .int r) :: lvB b ad qo qd i) hx hb dL_law_1269 hl (by decide) rfl (fun ls hl => ?_)
  refine lv_aload_n hx hb dL_law_1271 rfl (lv_at hl 4 rfl) ?_
  refine lsc (i := i) (k := 1) S hX hbl hbN hS (by omega) hL (lv_at hl 2 rfl) (lv_at hl 1 rfl) rfl ⟨dL_law_1272, dL_law_1273, dL_law_1275, dL_law_1276, dL_law_1277⟩ ?_
  refine lsc (i := i) (k := 2) S hX hbl hbN hS (by omega) hL (lv_at hl 2 rfl) (lv_at hl 1 rfl) rfl ⟨dL_law_1278, dL_law_1279, dL_law_1281, dL_law_1282, dL_law_1283⟩ ?_
  refine cVL (As := [.int (xs (i + 1)), .int (xs (i + 2))]) S (GI.x G) 276 (c_X11_factsFor l σ (xs (i + 1)) (xs (i + 2)) n hn hn6 (fun p hp d hne => fac_hz W9 d p hp hne)) ok_yX11_factsFor ml_RL_197 (by decide) oM rfl hP hS hl.1 ⟨by omega, by omega⟩ rfl rfl (Nat.le_of_ble_eq_true rfl) ⟨by omega, by omega⟩ dL_law_1284 (fun r2 τ2 H locs hq2 hP hS => ?_)
  obtain ⟨f1, f2⟩ := hq2
  rw [f2] at hP
  obtain ⟨k7, k8, k9⟩ := qE C e1 e3 (q_fac W9 g9)
  refine lv_istore (lv' := (7, .int r2) :: (6, .int r) :: lvB b ad qo qd i) hx hb dL_law_1287 hl (by decide) rfl (fun ls hl => ?_)
  refine ltl S (GI.x G) hP hS hl hR ⟨by omega, by omega⟩ k7 (by rw [f1]; exact k8) ⟨dL_law_1289, dL_law_1290, dL_law_1293, dL_law_1295, dL_law_1300, dL_law_1302, dL_law_1305, dL_law_1306, dL_law_1307, dL_law_1308, dL_law_1310, dL_law_1311, dL_law_1312, dL_law_1317⟩ (by decide) (fun H locs hP hS hl => ?_)
  exact W.widen (by omega) (by omega) (kk _ _ _ H locs _ k9 hP hS hl)
set_option maxHeartbeats 1000000 in
set_option maxRecDepth 100000 in
/-- tiltIn -/
theorem lw_17 (LC : LWC p l R s m args c ek cs N0 F b L xs) (G : GI D ct ek ad N0 (outX ct qo qd v w) F s) (hi : i + 3 < L) (hcs : cells + 3 ≤ R.cells ∧ slots + 18 ≤ R.slots) (C : CRel σ σ) (hP : wP D ct ek ad (outX ct qo qd v w) σ H) (hS : va_S (fr N0) s.heap H locs) (hl : lv_has ls 9 (lvB b ad qo qd i)) (kk : LWK p l e R s m args below meth c cells slots Q D ct ek ad N0 qo qd b i) : W p l e R s m args below meth c H locs cells slots Q (F0 m 1320 ls []) := by
  obtain ⟨S, hlt, hF, hY, hX, hbl, hbN, hL, hR⟩ := LC
  have hx := S.1
  have hb := S.2.1
  obtain ⟨n, mb, jn, u, L9, W9, g9, hO, hp, hbr, ⟨hj, hj8, hu, hu8, hu4⟩, hT1, hT2, hT3, hT4⟩ := C.use
  have hn := W9.1.1
  have hn6 := W9.1.2.1
  refine lv_aload_n hx hb dL_law_1320 rfl (lv_at hl 2 rfl) ?_
  refine lsc (i := i) (k := 1) S hX hbl hbN hS (by omega) hL (lv_at hl 1 rfl) (lv_at hl 0 rfl) rfl ⟨dL_law_1321, dL_law_1322, dL_law_1324, dL_law_1325, dL_law_1326⟩ ?_
  refine lsc (i := i) (k := 2) S hX hbl hbN hS (by omega) hL (lv_at hl 1 rfl) (lv_at hl 0 rfl) rfl ⟨dL_law_1327, dL_law_1328, dL_law_1330, dL_law_1331, dL_law_1332⟩ ?_
  refine lv_aload_n hx hb dL_law_1333 rfl (lv_at hl 4 rfl) ?_
  refine cSL (As := [.ref (ad 0), .int (xs (i + 1)), .int (xs (i + 2)), .ref qo]) S G (c_L_tiltIn l hY σ v w (xs (i + 1)) (xs (i + 2)) (c_X10_tiltIn l σ (xs (i + 1)) (xs (i + 2)) n mb hO (σ 277) W9.1 W9.2.1 hp cs hF hY hlt) (fun E τ h => PXd_2 h)) ck_tiltIn ml_RL_198 hP hS hl.1 ⟨by omega, by omega⟩ rfl rfl (Nat.le_of_ble_eq_true rfl) ⟨by omega, by omega⟩ dL_law_1334 (fun r τ v' w' H locs hq hP hS => ?_)
  obtain ⟨e1, e2, e3⟩ := qF (by decide) (by decide) (fun τ h => FcP_r h) hq
  have e4 : τ 277 = σ 277 := e2 277 (by omega)
  refine lv_istore (lv' := (6, .int r) :: lvB b ad qo qd i) hx hb dL_law_1337 hl (by decide) rfl (fun ls hl => ?_)
  refine lv_aload_n hx hb dL_law_1339 rfl (lv_at hl 4 rfl) ?_
  refine lsc (i := i) (k := 1) S hX hbl hbN hS (by omega) hL (lv_at hl 2 rfl) (lv_at hl 1 rfl) rfl ⟨dL_law_1340, dL_law_1341, dL_law_1343, dL_law_1344, dL_law_1345⟩ ?_
  refine lsc (i := i) (k := 2) S hX hbl hbN hS (by omega) hL (lv_at hl 2 rfl) (lv_at hl 1 rfl) rfl ⟨dL_law_1346, dL_law_1347, dL_law_1349, dL_law_1350, dL_law_1351⟩ ?_
  refine cVL (As := [.int (xs (i + 1)), .int (xs (i + 2))]) S (GI.x G) 276 (c_X11_tiltIn l τ (xs (i + 1)) (xs (i + 2)) n mb (by rw [e4]; exact W9.1)) ok_yX11_tiltIn ml_RL_200 (by decide) oM rfl hP hS hl.1 ⟨by omega, by omega⟩ rfl rfl (Nat.le_of_ble_eq_true rfl) ⟨by omega, by omega⟩ dL_law_1352 (fun r2 τ2 H locs hq2 hP hS => ?_)
  obtain ⟨f1, f2⟩ := hq2
  have Wt : WF (τ 277) n mb := by rw [e4]; exact W9
  have gt : HR σ 1 (τ 277) := by rw [e4]; exact g9
  have q9 := q_tin (σ := σ) (μ := τ) (x := (xs (i + 1))) (y := (xs (i + 2))) (h := τ 277) Wt gt
  rw [e4] at q9
  obtain ⟨k7, k8, k9⟩ := qG C e2 e1 e3 q9 f2
  refine lv_istore (lv' := (7, .int r2) :: (6, .int r) :: lvB b ad qo qd i) hx hb dL_law_1355 hl (by decide) rfl (fun ls hl => ?_)
  refine ltl S (GI.x G) hP hS hl hR ⟨by omega, by omega⟩ k7 (by rw [f1]; exact k8) ⟨dL_law_1357, dL_law_1358, dL_law_1361, dL_law_1363, dL_law_1368, dL_law_1370, dL_law_1373, dL_law_1374, dL_law_1375, dL_law_1376, dL_law_1378, dL_law_1379, dL_law_1380, dL_law_1385⟩ (by decide) (fun H locs hP hS hl => ?_)
  exact W.widen (by omega) (by omega) (kk _ _ _ H locs _ k9 hP hS hl)
set_option maxHeartbeats 1000000 in
set_option maxRecDepth 100000 in
/-- restsIn -/
theorem lw_18 (LC : LWC p l R s m args c ek cs N0 F b L xs) (G : GI D ct ek ad N0 (outX ct qo qd v w) F s) (hi : i + 3 < L) (hcs : cells + 3 ≤ R.cells ∧ slots + 18 ≤ R.slots) (C : CRel σ σ) (hP : wP D ct ek ad (outX ct qo qd v w) σ H) (hS : va_S (fr N0) s.heap H locs) (hl : lv_has ls 9 (lvB b ad qo qd i)) (kk : LWK p l e R s m args below meth c cells slots Q D ct ek ad N0 qo qd b i) : W p l e R s m args below meth c H locs cells slots Q (F0 m 1388 ls []) := by
  obtain ⟨S, hlt, hF, hY, hX, hbl, hbN, hL, hR⟩ := LC
  have hx := S.1
  have hb := S.2.1
  obtain ⟨n, mb, jn, u, L9, W9, g9, hO, hp, hbr, ⟨hj, hj8, hu, hu8, hu4⟩, hT1, hT2, hT3, hT4⟩ := C.use
  have hn := W9.1.1
  have hn6 := W9.1.2.1
  refine lv_aload_n hx hb dL_law_1388 rfl (lv_at hl 2 rfl) ?_
  refine lv_aload_n hx hb dL_law_1389 rfl (lv_at hl 4 rfl) ?_
  refine cSL (As := [.ref (ad 0), .ref qo]) S G (c_L_restsIn l hY σ v w (c_X10_restsIn l σ n mb hO (σ 277) W9.1 W9.2.1 hp cs hF hY hlt) (fun E τ h => PXd_1 h)) ck_restsIn ml_RL_201 hP hS hl.1 ⟨by omega, by omega⟩ rfl rfl (Nat.le_of_ble_eq_true rfl) ⟨by omega, by omega⟩ dL_law_1390 (fun r τ v' w' H locs hq hP hS => ?_)
  obtain ⟨e1, e2, e3⟩ := qF (by decide) (by decide) (fun τ h => h) hq
  have e4 : τ 277 = σ 277 := e2 277 (by omega)
  refine lv_istore (lv' := (6, .int r) :: lvB b ad qo qd i) hx hb dL_law_1393 hl (by decide) rfl (fun ls hl => ?_)
  refine lv_aload_n hx hb dL_law_1395 rfl (lv_at hl 4 rfl) ?_
  refine cVL (As := []) S (GI.x G) 276 (c_X11_restsIn l τ n mb (by rw [e4]; exact W9.1)) ok_yX11_restsIn ml_RL_203 (by decide) oM rfl hP hS hl.1 ⟨by omega, by omega⟩ rfl rfl (Nat.le_of_ble_eq_true rfl) ⟨by omega, by omega⟩ dL_law_1396 (fun r2 τ2 H locs hq2 hP hS => ?_)
  obtain ⟨f1, f2⟩ := hq2
  rw [e4] at f1 f2
  have q9 := q_rst (μ := σ) (n := n) (mb := mb)
  obtain ⟨k7, k8, k9⟩ := qG C e2 e1 e3 q9 f2
  refine lv_istore (lv' := (7, .int r2) :: (6, .int r) :: lvB b ad qo qd i) hx hb dL_law_1399 hl (by decide) rfl (fun ls hl => ?_)
  refine ltl S (GI.x G) hP hS hl hR ⟨by omega, by omega⟩ k7 (by rw [f1]; exact k8) ⟨dL_law_1401, dL_law_1402, dL_law_1405, dL_law_1407, dL_law_1412, dL_law_1414, dL_law_1417, dL_law_1418, dL_law_1419, dL_law_1420, dL_law_1422, dL_law_1423, dL_law_1424, dL_law_1429⟩ (by decide) (fun H locs hP hS hl => ?_)
  exact W.widen (by omega) (by omega) (kk _ _ _ H locs _ k9 hP hS hl)
set_option maxHeartbeats 1000000 in
set_option maxRecDepth 100000 in
/-- breaksIn -/
theorem lw_19 (LC : LWC p l R s m args c ek cs N0 F b L xs) (G : GI D ct ek ad N0 (outX ct qo qd v w) F s) (hi : i + 3 < L) (hcs : cells + 3 ≤ R.cells ∧ slots + 18 ≤ R.slots) (C : CRel σ σ) (hP : wP D ct ek ad (outX ct qo qd v w) σ H) (hS : va_S (fr N0) s.heap H locs) (hl : lv_has ls 9 (lvB b ad qo qd i)) (kk : LWK p l e R s m args below meth c cells slots Q D ct ek ad N0 qo qd b i) : W p l e R s m args below meth c H locs cells slots Q (F0 m 1432 ls []) := by
  obtain ⟨S, hlt, hF, hY, hX, hbl, hbN, hL, hR⟩ := LC
  have hx := S.1
  have hb := S.2.1
  obtain ⟨n, mb, jn, u, L9, W9, g9, hO, hp, hbr, ⟨hj, hj8, hu, hu8, hu4⟩, hT1, hT2, hT3, hT4⟩ := C.use
  have hn := W9.1.1
  have hn6 := W9.1.2.1
  refine lv_aload_n hx hb dL_law_1432 rfl (lv_at hl 2 rfl) ?_
  refine lsc (i := i) (k := 1) S hX hbl hbN hS (by omega) hL (lv_at hl 1 rfl) (lv_at hl 0 rfl) rfl ⟨dL_law_1433, dL_law_1434, dL_law_1436, dL_law_1437, dL_law_1438⟩ ?_
  refine lv_aload_n hx hb dL_law_1439 rfl (lv_at hl 4 rfl) ?_
  refine cSL (As := [.ref (ad 0), .int (xs (i + 1)), .ref qo]) S G (c_L_breaksIn l hY σ v w (xs (i + 1)) (c_X10_breaksIn l σ (xs (i + 1)) n mb hO (σ 277) W9.1 W9.2.1 hp hbr cs hF hY hlt) (fun E τ h => PXd_2 h)) ck_breaksIn ml_RL_204 hP hS hl.1 ⟨by omega, by omega⟩ rfl rfl (Nat.le_of_ble_eq_true rfl) ⟨by omega, by omega⟩ dL_law_1440 (fun r τ v' w' H locs hq hP hS => ?_)
  obtain ⟨e1, e2, e3⟩ := qF (by decide) (by decide) (fun τ h => h) hq
  have e4 : τ 277 = σ 277 := e2 277 (by omega)
  refine lv_istore (lv' := (6, .int r) :: lvB b ad qo qd i) hx hb dL_law_1443 hl (by decide) rfl (fun ls hl => ?_)
  refine lv_aload_n hx hb dL_law_1445 rfl (lv_at hl 4 rfl) ?_
  refine lsc (i := i) (k := 1) S hX hbl hbN hS (by omega) hL (lv_at hl 2 rfl) (lv_at hl 1 rfl) rfl ⟨dL_law_1446, dL_law_1447, dL_law_1449, dL_law_1450, dL_law_1451⟩ ?_
  refine cVL (As := [.int (xs (i + 1))]) S (GI.x G) 276 (c_X11_breaksIn l τ (xs (i + 1)) n mb (by rw [e4]; exact W9.1)) ok_yX11_breaksIn ml_RL_206 (by decide) oM rfl hP hS hl.1 ⟨by omega, by omega⟩ rfl rfl (Nat.le_of_ble_eq_true rfl) ⟨by omega, by omega⟩ dL_law_1452 (fun r2 τ2 H locs hq2 hP hS => ?_)
  obtain ⟨f1, f2⟩ := hq2
  have Wt : WF (τ 277) n mb := by rw [e4]; exact W9
  have gt : HR σ 1 (τ 277) := by rw [e4]; exact g9
  have q9 := q_bri (σ := σ) (μ := τ) (x := (xs (i + 1))) Wt gt
  rw [e4] at q9
  obtain ⟨k7, k8, k9⟩ := qG C e2 e1 e3 q9 f2
  refine lv_istore (lv' := (7, .int r2) :: (6, .int r) :: lvB b ad qo qd i) hx hb dL_law_1455 hl (by decide) rfl (fun ls hl => ?_)
  refine ltl S (GI.x G) hP hS hl hR ⟨by omega, by omega⟩ k7 (by rw [f1]; exact k8) ⟨dL_law_1457, dL_law_1458, dL_law_1461, dL_law_1463, dL_law_1468, dL_law_1470, dL_law_1473, dL_law_1474, dL_law_1475, dL_law_1476, dL_law_1478, dL_law_1479, dL_law_1480, dL_law_1485⟩ (by decide) (fun H locs hP hS hl => ?_)
  exact W.widen (by omega) (by omega) (kk _ _ _ H locs _ k9 hP hS hl)
end LLC

/-! the law's cases (laid by wip/whole/spec_loop.py) -/
section LLC
variable {p : Program} {l : Launch} {e : Env} {R : Room} {s : State} {m : MethodId} {args : Array Value} {below : List Frame} {meth : Method} {c : Code} {H : Heap} {locs : List Loc} {cells slots : Nat} {Q : State → Prop}
variable {ls : Array Slot} {D : va_G} {ct : Nat → ClassId} {ek ad cs : Nat → Nat} {N0 qo qd : Nat} {F : State → Prop} {σ : Mem} {v : Nat → Int64} {w : Nat → UInt64} {b L i : Nat} {xs : Nat → Int32}
set_option maxHeartbeats 1000000 in
set_option maxRecDepth 100000 in
/-- camp -/
theorem lw_20 (LC : LWC p l R s m args c ek cs N0 F b L xs) (G : GI D ct ek ad N0 (outX ct qo qd v w) F s) (hi : i + 3 < L) (hcs : cells + 3 ≤ R.cells ∧ slots + 18 ≤ R.slots) (C : CRel σ σ) (hP : wP D ct ek ad (outX ct qo qd v w) σ H) (hS : va_S (fr N0) s.heap H locs) (hl : lv_has ls 9 (lvB b ad qo qd i)) (kk : LWK p l e R s m args below meth c cells slots Q D ct ek ad N0 qo qd b i) : W p l e R s m args below meth c H locs cells slots Q (F0 m 1488 ls []) := by
  obtain ⟨S, hlt, hF, hY, hX, hbl, hbN, hL, hR⟩ := LC
  have hx := S.1
  have hb := S.2.1
  obtain ⟨n, mb, jn, u, L9, W9, g9, hO, hp, hbr, ⟨hj, hj8, hu, hu8, hu4⟩, hT1, hT2, hT3, hT4⟩ := C.use
  have hn := W9.1.1
  have hn6 := W9.1.2.1
  refine lv_aload_n hx hb dL_law_1488 rfl (lv_at hl 2 rfl) ?_
  refine lsc (i := i) (k := 1) S hX hbl hbN hS (by omega) hL (lv_at hl 1 rfl) (lv_at hl 0 rfl) rfl ⟨dL_law_1489, dL_law_1490, dL_law_1492, dL_law_1493, dL_law_1494⟩ ?_
  refine lv_aload_n hx hb dL_law_1495 rfl (lv_at hl 4 rfl) ?_
  refine cSL (As := [.ref (ad 0), .int (xs (i + 1)), .ref qo]) S G (c_L_camp l hY σ v w (xs (i + 1)) (c_X10_camp l σ (xs (i + 1)) n mb hO cs hF hY hlt) (fun E τ h => PXd_1 h)) ck_camp ml_RL_207 hP hS hl.1 ⟨by omega, by omega⟩ rfl rfl (Nat.le_of_ble_eq_true rfl) ⟨by omega, by omega⟩ dL_law_1496 (fun r τ v' w' H locs hq hP hS => ?_)
  obtain ⟨e1, e2, e3⟩ := qA (by decide) (by decide) hq
  rw [e2] at hP
  refine lv_istore (lv' := (6, .int r) :: lvB b ad qo qd i) hx hb dL_law_1499 hl (by decide) rfl (fun ls hl => ?_)
  refine lv_aload_n hx hb dL_law_1501 rfl (lv_at hl 4 rfl) ?_
  refine lsc (i := i) (k := 1) S hX hbl hbN hS (by omega) hL (lv_at hl 2 rfl) (lv_at hl 1 rfl) rfl ⟨dL_law_1502, dL_law_1503, dL_law_1505, dL_law_1506, dL_law_1507⟩ ?_
  refine cVL (As := [.int (xs (i + 1))]) S (GI.x G) 276 (c_X11_camp l σ (xs (i + 1)) n hn hn6) ok_yX11_camp ml_RL_209 (by decide) oM rfl hP hS hl.1 ⟨by omega, by omega⟩ rfl rfl (Nat.le_of_ble_eq_true rfl) ⟨by omega, by omega⟩ dL_law_1508 (fun r2 τ2 H locs hq2 hP hS => ?_)
  obtain ⟨f1, f2⟩ := hq2
  rw [f2] at hP
  obtain ⟨k7, k8, k9⟩ := qE C e1 e3 ⟨q_np W9 g9, q_1 W9 g9 (fun h5 h6 => camp_e W9 g9 h5)⟩
  refine lv_istore (lv' := (7, .int r2) :: (6, .int r) :: lvB b ad qo qd i) hx hb dL_law_1511 hl (by decide) rfl (fun ls hl => ?_)
  refine ltl S (GI.x G) hP hS hl hR ⟨by omega, by omega⟩ k7 (by rw [f1]; exact k8) ⟨dL_law_1513, dL_law_1514, dL_law_1517, dL_law_1519, dL_law_1524, dL_law_1526, dL_law_1529, dL_law_1530, dL_law_1531, dL_law_1532, dL_law_1534, dL_law_1535, dL_law_1536, dL_law_1541⟩ (by decide) (fun H locs hP hS hl => ?_)
  exact W.widen (by omega) (by omega) (kk _ _ _ H locs _ k9 hP hS hl)
set_option maxHeartbeats 1000000 in
set_option maxRecDepth 100000 in
/-- camps -/
theorem lw_21 (LC : LWC p l R s m args c ek cs N0 F b L xs) (G : GI D ct ek ad N0 (outX ct qo qd v w) F s) (hi : i + 3 < L) (hcs : cells + 3 ≤ R.cells ∧ slots + 18 ≤ R.slots) (C : CRel σ σ) (hP : wP D ct ek ad (outX ct qo qd v w) σ H) (hS : va_S (fr N0) s.heap H locs) (hl : lv_has ls 9 (lvB b ad qo qd i)) (kk : LWK p l e R s m args below meth c cells slots Q D ct ek ad N0 qo qd b i) : W p l e R s m args below meth c H locs cells slots Q (F0 m 1544 ls []) := by
  obtain ⟨S, hlt, hF, hY, hX, hbl, hbN, hL, hR⟩ := LC
  have hx := S.1
  have hb := S.2.1
  obtain ⟨n, mb, jn, u, L9, W9, g9, hO, hp, hbr, ⟨hj, hj8, hu, hu8, hu4⟩, hT1, hT2, hT3, hT4⟩ := C.use
  have hn := W9.1.1
  have hn6 := W9.1.2.1
  refine lv_aload_n hx hb dL_law_1544 rfl (lv_at hl 2 rfl) ?_
  refine cVL (As := []) S G 0 (c_X10_camps l σ n mb hO) ok_yX10_camps ml_RL_210 (by decide) oX rfl hP hS hl.1 ⟨by omega, by omega⟩ rfl rfl (Nat.le_of_ble_eq_true rfl) ⟨by omega, by omega⟩ dL_law_1545 (fun r τ H locs hq hP hS => ?_)
  obtain ⟨f1, f2⟩ := hq
  rw [f2] at hP
  refine lv_aload_n hx hb dL_law_1548 rfl (lv_at hl 3 rfl) ?_
  refine cVL (As := []) S G 276 (c_X11_camps l σ n hn hn6 (fun p hp => cm_hcm hn6 hp)) ok_yX11_camps ml_RL_213 (by decide) oM rfl hP hS hl.1 ⟨by omega, by omega⟩ rfl rfl (Nat.le_of_ble_eq_true rfl) ⟨by omega, by omega⟩ dL_law_1549 (fun r2 τ2 H locs hq2 hP hS => ?_)
  obtain ⟨g1, g2⟩ := hq2
  have k7 : r = r2 := f1.trans ((low_e W9 g9).trans g1.symm)
  have k9 : CRel τ2 τ2 := (by rw [g2]; exact th_0 C (fun _ _ => rfl))
  refine lv_icmp_eq (tgt := 2363) hx hb dL_law_1552 (by decide) (fun _ => ?_) (fun h => absurd k7 h)
  exact W.widen (by omega) (by omega) (kk _ _ _ H locs _ k9 hP hS hl)
set_option maxHeartbeats 1000000 in
set_option maxRecDepth 100000 in
/-- campsAgain -/
theorem lw_22 (LC : LWC p l R s m args c ek cs N0 F b L xs) (G : GI D ct ek ad N0 (outX ct qo qd v w) F s) (hi : i + 3 < L) (hcs : cells + 3 ≤ R.cells ∧ slots + 18 ≤ R.slots) (C : CRel σ σ) (hP : wP D ct ek ad (outX ct qo qd v w) σ H) (hS : va_S (fr N0) s.heap H locs) (hl : lv_has ls 9 (lvB b ad qo qd i)) (kk : LWK p l e R s m args below meth c cells slots Q D ct ek ad N0 qo qd b i) : W p l e R s m args below meth c H locs cells slots Q (F0 m 1557 ls []) := by
  obtain ⟨S, hlt, hF, hY, hX, hbl, hbN, hL, hR⟩ := LC
  have hx := S.1
  have hb := S.2.1
  obtain ⟨n, mb, jn, u, L9, W9, g9, hO, hp, hbr, ⟨hj, hj8, hu, hu8, hu4⟩, hT1, hT2, hT3, hT4⟩ := C.use
  have hn := W9.1.1
  have hn6 := W9.1.2.1
  refine lv_aload_n hx hb dL_law_1557 rfl (lv_at hl 2 rfl) ?_
  refine cVL (As := []) S G 0 (c_X10_campsAgain l σ n mb hO) ok_yX10_campsAgain ml_RL_214 (by decide) oX rfl hP hS hl.1 ⟨by omega, by omega⟩ rfl rfl (Nat.le_of_ble_eq_true rfl) ⟨by omega, by omega⟩ dL_law_1558 (fun r τ H locs hq hP hS => ?_)
  obtain ⟨f1, f2⟩ := hq
  have e0 : τ 277 = σ 277 := by rw [f2]; exact sb_n (by decide)
  refine lv_aload_n hx hb dL_law_1561 rfl (lv_at hl 3 rfl) ?_
  refine cVL (As := []) S G 276 (c_X11_campsAgain l τ n (by rw [e0]; exact hn) hn6 (fun p hp => cm_hcm hn6 hp)) ok_yX11_campsAgain ml_RL_217 (by decide) oM rfl hP hS hl.1 ⟨by omega, by omega⟩ rfl rfl (Nat.le_of_ble_eq_true rfl) ⟨by omega, by omega⟩ dL_law_1562 (fun r2 τ2 H locs hq2 hP hS => ?_)
  obtain ⟨g1, g2⟩ := hq2
  have k7 : r = r2 := f1.trans ((again_e W9 g9).trans (by rw [g1, e0]))
  have k9 : CRel τ2 τ2 := (by rw [g2]; exact th_0 C (fun c hc => by rw [f2]; exact sb_n (by omega)))
  refine lv_icmp_eq (tgt := 2363) hx hb dL_law_1565 (by decide) (fun _ => ?_) (fun h => absurd k7 h)
  exact W.widen (by omega) (by omega) (kk _ _ _ H locs _ k9 hP hS hl)
set_option maxHeartbeats 1000000 in
set_option maxRecDepth 100000 in
/-- greatest -/
theorem lw_23 (LC : LWC p l R s m args c ek cs N0 F b L xs) (G : GI D ct ek ad N0 (outX ct qo qd v w) F s) (hi : i + 3 < L) (hcs : cells + 3 ≤ R.cells ∧ slots + 18 ≤ R.slots) (C : CRel σ σ) (hP : wP D ct ek ad (outX ct qo qd v w) σ H) (hS : va_S (fr N0) s.heap H locs) (hl : lv_has ls 9 (lvB b ad qo qd i)) (kk : LWK p l e R s m args below meth c cells slots Q D ct ek ad N0 qo qd b i) : W p l e R s m args below meth c H locs cells slots Q (F0 m 1570 ls []) := by
  obtain ⟨S, hlt, hF, hY, hX, hbl, hbN, hL, hR⟩ := LC
  have hx := S.1
  have hb := S.2.1
  obtain ⟨n, mb, jn, u, L9, W9, g9, hO, hp, hbr, ⟨hj, hj8, hu, hu8, hu4⟩, hT1, hT2, hT3, hT4⟩ := C.use
  have hn := W9.1.1
  have hn6 := W9.1.2.1
  refine lv_aload_n hx hb dL_law_1570 rfl (lv_at hl 2 rfl) ?_
  refine lsc (i := i) (k := 1) S hX hbl hbN hS (by omega) hL (lv_at hl 1 rfl) (lv_at hl 0 rfl) rfl ⟨dL_law_1571, dL_law_1572, dL_law_1574, dL_law_1575, dL_law_1576⟩ ?_
  refine lbo S ⟨dL_law_1577, dL_law_1580, dL_law_1581, dL_law_1584⟩ ?_
  refine lv_aload_n hx hb dL_law_1585 rfl (lv_at hl 4 rfl) ?_
  refine cSL (As := [.ref (ad 0), .int (if xs (i + 1) = 0 then 0 else 1), .ref qo]) S G (c_L_greatest l hY σ v w (if xs (i + 1) = 0 then 0 else 1) (c_X10_greatest l σ (if xs (i + 1) = 0 then 0 else 1) n mb hO cs hF hY hlt) (fun E τ h => PXd_1 h)) ck_greatest ml_RL_218 hP hS hl.1 ⟨by omega, by omega⟩ rfl rfl (Nat.le_of_ble_eq_true rfl) ⟨by omega, by omega⟩ dL_law_1586 (fun r τ v' w' H locs hq hP hS => ?_)
  obtain ⟨e1, e2, e3⟩ := qA (by decide) (by decide) hq
  rw [e2] at hP
  refine lv_istore (lv' := (6, .int r) :: lvB b ad qo qd i) hx hb dL_law_1589 hl (by decide) rfl (fun ls hl => ?_)
  refine lv_aload_n hx hb dL_law_1591 rfl (lv_at hl 4 rfl) ?_
  refine lsc (i := i) (k := 1) S hX hbl hbN hS (by omega) hL (lv_at hl 2 rfl) (lv_at hl 1 rfl) rfl ⟨dL_law_1592, dL_law_1593, dL_law_1595, dL_law_1596, dL_law_1597⟩ ?_
  refine lbo S ⟨dL_law_1598, dL_law_1601, dL_law_1602, dL_law_1605⟩ ?_
  refine cVL (As := [.int (if xs (i + 1) = 0 then 0 else 1)]) S (GI.x G) 276 (c_X11_greatest l σ (if xs (i + 1) = 0 then 0 else 1) n hn hn6) ok_yX11_greatest ml_RL_221 (by decide) oM rfl hP hS hl.1 ⟨by omega, by omega⟩ rfl rfl (Nat.le_of_ble_eq_true rfl) ⟨by omega, by omega⟩ dL_law_1606 (fun r2 τ2 H locs hq2 hP hS => ?_)
  obtain ⟨f1, f2⟩ := hq2
  rw [f2] at hP
  obtain ⟨k7, k8, k9⟩ := qE C e1 e3 (q_gre W9 g9)
  refine lv_istore (lv' := (7, .int r2) :: (6, .int r) :: lvB b ad qo qd i) hx hb dL_law_1609 hl (by decide) rfl (fun ls hl => ?_)
  refine ltl S (GI.x G) hP hS hl hR ⟨by omega, by omega⟩ k7 (by rw [f1]; exact k8) ⟨dL_law_1611, dL_law_1612, dL_law_1615, dL_law_1617, dL_law_1622, dL_law_1624, dL_law_1627, dL_law_1628, dL_law_1629, dL_law_1630, dL_law_1632, dL_law_1633, dL_law_1634, dL_law_1639⟩ (by decide) (fun H locs hP hS hl => ?_)
  exact W.widen (by omega) (by omega) (kk _ _ _ H locs _ k9 hP hS hl)
set_option maxHeartbeats 1000000 in
set_option maxRecDepth 100000 in
/-- ranked -/
theorem lw_24 (LC : LWC p l R s m args c ek cs N0 F b L xs) (G : GI D ct ek ad N0 (outX ct qo qd v w) F s) (hi : i + 3 < L) (hcs : cells + 3 ≤ R.cells ∧ slots + 18 ≤ R.slots) (C : CRel σ σ) (hP : wP D ct ek ad (outX ct qo qd v w) σ H) (hS : va_S (fr N0) s.heap H locs) (hl : lv_has ls 9 (lvB b ad qo qd i)) (kk : LWK p l e R s m args below meth c cells slots Q D ct ek ad N0 qo qd b i) : W p l e R s m args below meth c H locs cells slots Q (F0 m 1642 ls []) := by
  obtain ⟨S, hlt, hF, hY, hX, hbl, hbN, hL, hR⟩ := LC
  have hx := S.1
  have hb := S.2.1
  obtain ⟨n, mb, jn, u, L9, W9, g9, hO, hp, hbr, ⟨hj, hj8, hu, hu8, hu4⟩, hT1, hT2, hT3, hT4⟩ := C.use
  have hn := W9.1.1
  have hn6 := W9.1.2.1
  refine lv_aload_n hx hb dL_law_1642 rfl (lv_at hl 2 rfl) ?_
  refine lsc (i := i) (k := 1) S hX hbl hbN hS (by omega) hL (lv_at hl 1 rfl) (lv_at hl 0 rfl) rfl ⟨dL_law_1643, dL_law_1644, dL_law_1646, dL_law_1647, dL_law_1648⟩ ?_
  refine lsc (i := i) (k := 2) S hX hbl hbN hS (by omega) hL (lv_at hl 1 rfl) (lv_at hl 0 rfl) rfl ⟨dL_law_1649, dL_law_1650, dL_law_1652, dL_law_1653, dL_law_1654⟩ ?_
  refine lv_aload_n hx hb dL_law_1655 rfl (lv_at hl 4 rfl) ?_
  refine cSL (As := [.ref (ad 0), .int (xs (i + 1)), .int (xs (i + 2)), .ref qo]) S G (c_L_ranked l hY σ v w (xs (i + 1)) (xs (i + 2)) (c_X10_ranked l σ (xs (i + 1)) (xs (i + 2)) n mb hO cs hF hY hlt) (fun E τ h => PXd_2 h)) ck_ranked ml_RL_222 hP hS hl.1 ⟨by omega, by omega⟩ rfl rfl (Nat.le_of_ble_eq_true rfl) ⟨by omega, by omega⟩ dL_law_1656 (fun r τ v' w' H locs hq hP hS => ?_)
  obtain ⟨e1, e2, e3⟩ := qA (by decide) (by decide) hq
  rw [e2] at hP
  refine lv_istore (lv' := (6, .int r) :: lvB b ad qo qd i) hx hb dL_law_1659 hl (by decide) rfl (fun ls hl => ?_)
  refine lv_aload_n hx hb dL_law_1661 rfl (lv_at hl 4 rfl) ?_
  refine lsc (i := i) (k := 1) S hX hbl hbN hS (by omega) hL (lv_at hl 2 rfl) (lv_at hl 1 rfl) rfl ⟨dL_law_1662, dL_law_1663, dL_law_1665, dL_law_1666, dL_law_1667⟩ ?_
  refine lsc (i := i) (k := 2) S hX hbl hbN hS (by omega) hL (lv_at hl 2 rfl) (lv_at hl 1 rfl) rfl ⟨dL_law_1668, dL_law_1669, dL_law_1671, dL_law_1672, dL_law_1673⟩ ?_
  refine cVL (As := [.int (xs (i + 1)), .int (xs (i + 2))]) S (GI.x G) 276 (c_X11_ranked l σ (xs (i + 1)) (xs (i + 2)) n hn hn6) ok_yX11_ranked ml_RL_224 (by decide) oM rfl hP hS hl.1 ⟨by omega, by omega⟩ rfl rfl (Nat.le_of_ble_eq_true rfl) ⟨by omega, by omega⟩ dL_law_1674 (fun r2 τ2 H locs hq2 hP hS => ?_)
  obtain ⟨f1, f2⟩ := hq2
  rw [f2] at hP
  obtain ⟨k7, k8, k9⟩ := qE C e1 e3 (q_ran W9 g9)
  refine lv_istore (lv' := (7, .int r2) :: (6, .int r) :: lvB b ad qo qd i) hx hb dL_law_1677 hl (by decide) rfl (fun ls hl => ?_)
  refine ltl S (GI.x G) hP hS hl hR ⟨by omega, by omega⟩ k7 (by rw [f1]; exact k8) ⟨dL_law_1679, dL_law_1680, dL_law_1683, dL_law_1685, dL_law_1690, dL_law_1692, dL_law_1695, dL_law_1696, dL_law_1697, dL_law_1698, dL_law_1700, dL_law_1701, dL_law_1702, dL_law_1707⟩ (by decide) (fun H locs hP hS hl => ?_)
  exact W.widen (by omega) (by omega) (kk _ _ _ H locs _ k9 hP hS hl)
set_option maxHeartbeats 1000000 in
set_option maxRecDepth 100000 in
/-- weakest -/
theorem lw_25 (LC : LWC p l R s m args c ek cs N0 F b L xs) (G : GI D ct ek ad N0 (outX ct qo qd v w) F s) (hi : i + 3 < L) (hcs : cells + 3 ≤ R.cells ∧ slots + 18 ≤ R.slots) (C : CRel σ σ) (hP : wP D ct ek ad (outX ct qo qd v w) σ H) (hS : va_S (fr N0) s.heap H locs) (hl : lv_has ls 9 (lvB b ad qo qd i)) (kk : LWK p l e R s m args below meth c cells slots Q D ct ek ad N0 qo qd b i) : W p l e R s m args below meth c H locs cells slots Q (F0 m 1710 ls []) := by
  obtain ⟨S, hlt, hF, hY, hX, hbl, hbN, hL, hR⟩ := LC
  have hx := S.1
  have hb := S.2.1
  obtain ⟨n, mb, jn, u, L9, W9, g9, hO, hp, hbr, ⟨hj, hj8, hu, hu8, hu4⟩, hT1, hT2, hT3, hT4⟩ := C.use
  have hn := W9.1.1
  have hn6 := W9.1.2.1
  refine lv_aload_n hx hb dL_law_1710 rfl (lv_at hl 2 rfl) ?_
  refine lsc (i := i) (k := 1) S hX hbl hbN hS (by omega) hL (lv_at hl 1 rfl) (lv_at hl 0 rfl) rfl ⟨dL_law_1711, dL_law_1712, dL_law_1714, dL_law_1715, dL_law_1716⟩ ?_
  refine lv_aload_n hx hb dL_law_1717 rfl (lv_at hl 4 rfl) ?_
  refine cSL (As := [.ref (ad 0), .int (xs (i + 1)), .ref qo]) S G (c_L_weakest l hY σ v w (xs (i + 1)) (c_X10_weakest l σ (xs (i + 1)) n mb hO cs hF hY hlt) (fun E τ h => PXd_1 h)) ck_weakest ml_RL_225 hP hS hl.1 ⟨by omega, by omega⟩ rfl rfl (Nat.le_of_ble_eq_true rfl) ⟨by omega, by omega⟩ dL_law_1718 (fun r τ v' w' H locs hq hP hS => ?_)
  obtain ⟨e1, e2, e3⟩ := qA (by decide) (by decide) hq
  rw [e2] at hP
  refine lv_istore (lv' := (6, .int r) :: lvB b ad qo qd i) hx hb dL_law_1721 hl (by decide) rfl (fun ls hl => ?_)
  refine lv_aload_n hx hb dL_law_1723 rfl (lv_at hl 4 rfl) ?_
  refine lsc (i := i) (k := 1) S hX hbl hbN hS (by omega) hL (lv_at hl 2 rfl) (lv_at hl 1 rfl) rfl ⟨dL_law_1724, dL_law_1725, dL_law_1727, dL_law_1728, dL_law_1729⟩ ?_
  refine cVL (As := [.int (xs (i + 1))]) S (GI.x G) 276 (c_X11_weakest l σ (xs (i + 1)) n mb W9.1) ok_yX11_weakest ml_RL_227 (by decide) oM rfl hP hS hl.1 ⟨by omega, by omega⟩ rfl rfl (Nat.le_of_ble_eq_true rfl) ⟨by omega, by omega⟩ dL_law_1730 (fun r2 τ2 H locs hq2 hP hS => ?_)
  obtain ⟨f1, f2⟩ := hq2
  rw [f2] at hP
  obtain ⟨k7, k8, k9⟩ := qE C e1 e3 (q_wea W9 g9)
  refine lv_istore (lv' := (7, .int r2) :: (6, .int r) :: lvB b ad qo qd i) hx hb dL_law_1733 hl (by decide) rfl (fun ls hl => ?_)
  refine ltl S (GI.x G) hP hS hl hR ⟨by omega, by omega⟩ k7 (by rw [f1]; exact k8) ⟨dL_law_1735, dL_law_1736, dL_law_1739, dL_law_1741, dL_law_1746, dL_law_1748, dL_law_1751, dL_law_1752, dL_law_1753, dL_law_1754, dL_law_1756, dL_law_1757, dL_law_1758, dL_law_1763⟩ (by decide) (fun H locs hP hS hl => ?_)
  exact W.widen (by omega) (by omega) (kk _ _ _ H locs _ k9 hP hS hl)
set_option maxHeartbeats 1000000 in
set_option maxRecDepth 100000 in
/-- isEven -/
theorem lw_26 (LC : LWC p l R s m args c ek cs N0 F b L xs) (G : GI D ct ek ad N0 (outX ct qo qd v w) F s) (hi : i + 3 < L) (hcs : cells + 3 ≤ R.cells ∧ slots + 18 ≤ R.slots) (C : CRel σ σ) (hP : wP D ct ek ad (outX ct qo qd v w) σ H) (hS : va_S (fr N0) s.heap H locs) (hl : lv_has ls 9 (lvB b ad qo qd i)) (kk : LWK p l e R s m args below meth c cells slots Q D ct ek ad N0 qo qd b i) : W p l e R s m args below meth c H locs cells slots Q (F0 m 1766 ls []) := by
  obtain ⟨S, hlt, hF, hY, hX, hbl, hbN, hL, hR⟩ := LC
  have hx := S.1
  have hb := S.2.1
  obtain ⟨n, mb, jn, u, L9, W9, g9, hO, hp, hbr, ⟨hj, hj8, hu, hu8, hu4⟩, hT1, hT2, hT3, hT4⟩ := C.use
  have hn := W9.1.1
  have hn6 := W9.1.2.1
  refine lv_aload_n hx hb dL_law_1766 rfl (lv_at hl 2 rfl) ?_
  refine cVL (As := []) S G 0 (c_X10_isEven l σ n mb hO (ev_h W9 g9).1 (ev_h W9 g9).2.1 (ev_h W9 g9).2.2) ok_yX10_isEven ml_RL_228 (by decide) oX rfl hP hS hl.1 ⟨by omega, by omega⟩ rfl rfl (Nat.le_of_ble_eq_true rfl) ⟨by omega, by omega⟩ dL_law_1767 (fun r τ H locs hq hP hS => ?_)
  obtain ⟨f1, f2⟩ := hq
  refine lv_aload_n hx hb dL_law_1770 rfl (lv_at hl 3 rfl) ?_
  refine cVL (As := []) S G 276 (c_X11_isEven l τ) ok_yX11_isEven ml_RL_232 (by decide) oM rfl hP hS hl.1 ⟨by omega, by omega⟩ rfl rfl (Nat.le_of_ble_eq_true rfl) ⟨by omega, by omega⟩ dL_law_1771 (fun r2 τ2 H locs hq2 hP hS => ?_)
  obtain ⟨g1, g2⟩ := hq2
  have k7 : r = r2 := f1.trans g1.symm
  have k9 : CRel τ2 τ2 := (by rw [g2, f2]; exact th_0 C (fun _ _ => rfl))
  refine lv_icmp_eq (tgt := 2363) hx hb dL_law_1774 (by decide) (fun _ => ?_) (fun h => absurd k7 h)
  exact W.widen (by omega) (by omega) (kk _ _ _ H locs _ k9 hP hS hl)
set_option maxHeartbeats 1000000 in
set_option maxRecDepth 100000 in
/-- append -/
theorem lw_27 (LC : LWC p l R s m args c ek cs N0 F b L xs) (G : GI D ct ek ad N0 (outX ct qo qd v w) F s) (hi : i + 3 < L) (hcs : cells + 3 ≤ R.cells ∧ slots + 18 ≤ R.slots) (C : CRel σ σ) (hP : wP D ct ek ad (outX ct qo qd v w) σ H) (hS : va_S (fr N0) s.heap H locs) (hl : lv_has ls 9 (lvB b ad qo qd i)) (kk : LWK p l e R s m args below meth c cells slots Q D ct ek ad N0 qo qd b i) : W p l e R s m args below meth c H locs cells slots Q (F0 m 1779 ls []) := by
  obtain ⟨S, hlt, hF, hY, hX, hbl, hbN, hL, hR⟩ := LC
  have hx := S.1
  have hb := S.2.1
  obtain ⟨n, mb, jn, u, L9, W9, g9, hO, hp, hbr, ⟨hj, hj8, hu, hu8, hu4⟩, hT1, hT2, hT3, hT4⟩ := C.use
  have hn := W9.1.1
  have hn6 := W9.1.2.1
  refine lv_aload_n hx hb dL_law_1779 rfl (lv_at hl 2 rfl) ?_
  refine lsc (i := i) (k := 1) S hX hbl hbN hS (by omega) hL (lv_at hl 1 rfl) (lv_at hl 0 rfl) rfl ⟨dL_law_1780, dL_law_1781, dL_law_1783, dL_law_1784, dL_law_1785⟩ ?_
  refine lv_i2c hx hb dL_law_1786 rfl ?_
  refine lv_aload_n hx hb dL_law_1787 rfl (lv_at hl 4 rfl) ?_
  refine cSL (As := [.ref (ad 0), .int ((xs (i + 1)).toUInt32 % 65536).toInt32, .ref qo]) S G (c_L_append l hY σ v w ((xs (i + 1)).toUInt32 % 65536).toInt32 (c_X10_append l σ ((xs (i + 1)).toUInt32 % 65536).toInt32 (nar_c _) L9 hT1 hT2 cs hF hY hlt) (fun E τ h => PXd_1 h)) ck_append ml_RL_233 hP hS hl.1 ⟨by omega, by omega⟩ rfl rfl (Nat.le_of_ble_eq_true rfl) ⟨by omega, by omega⟩ dL_law_1788 (fun r τ v' w' H locs hq hP hS => ?_)
  obtain ⟨h0, k7, k8, k9⟩ := ape_w (nar_c _) C hT1 hT2 hT3 hq
  refine lv_istore (lv' := (6, .int r) :: lvB b ad qo qd i) hx hb dL_law_1791 hl (by decide) rfl (fun ls hl => ?_)
  refine lv_aload_n hx hb dL_law_1793 rfl (lv_at hl 4 rfl) ?_
  refine lsc (i := i) (k := 1) S hX hbl hbN hS (by omega) hL (lv_at hl 2 rfl) (lv_at hl 1 rfl) rfl ⟨dL_law_1794, dL_law_1795, dL_law_1797, dL_law_1798, dL_law_1799⟩ ?_
  refine lv_i2c hx hb dL_law_1800 rfl ?_
  refine cVL (As := [.int ((xs (i + 1)).toUInt32 % 65536).toInt32]) S (GI.x G) 276 (c_X11_append l τ ((xs (i + 1)).toUInt32 % 65536).toInt32 (nar_c _) L9 h0 hT2) ok_yX11_append ml_RL_236 (by decide) oM rfl hP hS hl.1 ⟨by omega, by omega⟩ rfl rfl (Nat.le_of_ble_eq_true rfl) ⟨by omega, by omega⟩ dL_law_1801 (fun r2 τ2 H locs hq2 hP hS => ?_)
  obtain ⟨f1, f2⟩ := hq2
  rw [f2] at hP
  refine lv_istore (lv' := (7, .int r2) :: (6, .int r) :: lvB b ad qo qd i) hx hb dL_law_1804 hl (by decide) rfl (fun ls hl => ?_)
  refine ltl S (GI.x G) hP hS hl hR ⟨by omega, by omega⟩ k7 (by rw [f1]; exact k8) ⟨dL_law_1806, dL_law_1807, dL_law_1810, dL_law_1812, dL_law_1817, dL_law_1819, dL_law_1822, dL_law_1823, dL_law_1824, dL_law_1825, dL_law_1827, dL_law_1828, dL_law_1829, dL_law_1834⟩ (by decide) (fun H locs hP hS hl => ?_)
  exact W.widen (by omega) (by omega) (kk _ _ _ H locs _ k9 hP hS hl)
set_option maxHeartbeats 1000000 in
set_option maxRecDepth 100000 in
/-- commands -/
theorem lw_28 (LC : LWC p l R s m args c ek cs N0 F b L xs) (G : GI D ct ek ad N0 (outX ct qo qd v w) F s) (hi : i + 3 < L) (hcs : cells + 3 ≤ R.cells ∧ slots + 18 ≤ R.slots) (C : CRel σ σ) (hP : wP D ct ek ad (outX ct qo qd v w) σ H) (hS : va_S (fr N0) s.heap H locs) (hl : lv_has ls 9 (lvB b ad qo qd i)) (kk : LWK p l e R s m args below meth c cells slots Q D ct ek ad N0 qo qd b i) : W p l e R s m args below meth c H locs cells slots Q (F0 m 1837 ls []) := by
  obtain ⟨S, hlt, hF, hY, hX, hbl, hbN, hL, hR⟩ := LC
  have hx := S.1
  have hb := S.2.1
  obtain ⟨n, mb, jn, u, L9, W9, g9, hO, hp, hbr, ⟨hj, hj8, hu, hu8, hu4⟩, hT1, hT2, hT3, hT4⟩ := C.use
  have hn := W9.1.1
  have hn6 := W9.1.2.1
  refine lv_aload_n hx hb dL_law_1837 rfl (lv_at hl 2 rfl) ?_
  refine lv_aload_n hx hb dL_law_1838 rfl (lv_at hl 4 rfl) ?_
  refine cSL (As := [.ref (ad 0), .ref qo]) S G (c_L_commands l hY σ v w (c_X10_commands l σ n mb hO L9 hT1 hT2 jn hj hj8 u hu hu8 cs hF hY hlt) (fun E τ h => h.elim (fun q => Or.inl q.1) (fun q => Or.inr q.1))) ck_commands ml_RL_237 hP hS hl.1 ⟨by omega, by omega⟩ rfl rfl (Nat.le_of_ble_eq_true rfl) ⟨by omega, by omega⟩ dL_law_1839 (fun r τ v' w' H locs hq hP hS => ?_)
  obtain ⟨h0, h1⟩ := cmd_w C hT2 hj hj8 hu hu8 hu4 hq
  have e0 : τ 277 = σ 277 := h0 277 (by decide)
  refine lv_istore (lv' := (6, .int r) :: lvB b ad qo qd i) hx hb dL_law_1842 hl (by decide) rfl (fun ls hl => ?_)
  refine lv_aload_n hx hb dL_law_1844 rfl (lv_at hl 4 rfl) ?_
  refine cVL (As := []) S (GI.x G) 276 (c_X11_commands l τ cs hF L9 (by rw [h0 276 (by decide)]; exact hT3) hT2 (by rw [h0 284 (by decide)]; exact hT4) (by rw [e0]; unfold RW; rw [tnn W9, tnm W9]; exact W9.1) u (by rw [h0 276 (by decide)]; exact hu4) hu8) ok_yX11_commands ml_RL_239 (by decide) oM rfl hP hS hl.1 ⟨by omega, by omega⟩ rfl rfl (Nat.le_of_ble_eq_true rfl) ⟨by omega, by omega⟩ dL_law_1845 (fun r2 τ2 H locs hq2 hP hS => ?_)
  obtain ⟨k7, k8, k9⟩ := h1 _ _ hq2
  refine lv_istore (lv' := (7, .int r2) :: (6, .int r) :: lvB b ad qo qd i) hx hb dL_law_1848 hl (by decide) rfl (fun ls hl => ?_)
  refine ltl S (GI.x G) hP hS hl hR ⟨by omega, by omega⟩ k7 k8 ⟨dL_law_1850, dL_law_1851, dL_law_1854, dL_law_1856, dL_law_1861, dL_law_1863, dL_law_1866, dL_law_1867, dL_law_1868, dL_law_1869, dL_law_1871, dL_law_1872, dL_law_1873, dL_law_1878⟩ (by decide) (fun H locs hP hS hl => ?_)
  exact W.widen (by omega) (by omega) (kk _ _ _ H locs _ k9 hP hS hl)
set_option maxHeartbeats 1000000 in
set_option maxRecDepth 100000 in
/-- faultPosition -/
theorem lw_29 (LC : LWC p l R s m args c ek cs N0 F b L xs) (G : GI D ct ek ad N0 (outX ct qo qd v w) F s) (hi : i + 3 < L) (hcs : cells + 3 ≤ R.cells ∧ slots + 18 ≤ R.slots) (C : CRel σ σ) (hP : wP D ct ek ad (outX ct qo qd v w) σ H) (hS : va_S (fr N0) s.heap H locs) (hl : lv_has ls 9 (lvB b ad qo qd i)) (kk : LWK p l e R s m args below meth c cells slots Q D ct ek ad N0 qo qd b i) : W p l e R s m args below meth c H locs cells slots Q (F0 m 1881 ls []) := by
  obtain ⟨S, hlt, hF, hY, hX, hbl, hbN, hL, hR⟩ := LC
  have hx := S.1
  have hb := S.2.1
  obtain ⟨n, mb, jn, u, L9, W9, g9, hO, hp, hbr, ⟨hj, hj8, hu, hu8, hu4⟩, hT1, hT2, hT3, hT4⟩ := C.use
  have hn := W9.1.1
  have hn6 := W9.1.2.1
  refine lv_aload_n hx hb dL_law_1881 rfl (lv_at hl 2 rfl) ?_
  refine cVL (As := []) S G 0 (c_X10_faultPosition l σ) ok_yX10_faultPosition ml_RL_240 (by decide) oX rfl hP hS hl.1 ⟨by omega, by omega⟩ rfl rfl (Nat.le_of_ble_eq_true rfl) ⟨by omega, by omega⟩ dL_law_1882 (fun r τ H locs hq hP hS => ?_)
  obtain ⟨f1, f2⟩ := hq
  refine lv_aload_n hx hb dL_law_1885 rfl (lv_at hl 3 rfl) ?_
  refine cVL (As := []) S G 276 (c_X11_faultPosition l τ) ok_yX11_faultPosition ml_RL_243 (by decide) oM rfl hP hS hl.1 ⟨by omega, by omega⟩ rfl rfl (Nat.le_of_ble_eq_true rfl) ⟨by omega, by omega⟩ dL_law_1886 (fun r2 τ2 H locs hq2 hP hS => ?_)
  obtain ⟨g1, g2⟩ := hq2
  have k7 : r = r2 := f1.trans (C.2.2.2.2.2.2.1.trans (by rw [g1, f2]))
  have k9 : CRel τ2 τ2 := (by rw [g2, f2]; exact th_0 C (fun _ _ => rfl))
  refine lv_icmp_eq (tgt := 2363) hx hb dL_law_1889 (by decide) (fun _ => ?_) (fun h => absurd k7 h)
  exact W.widen (by omega) (by omega) (kk _ _ _ H locs _ k9 hP hS hl)
end LLC

/-! Line: the walks (laid by wip/p43/spec_line.py) -/
theorem ok_yX7_put : COK RX7 yX7_put cX7_put 2 none 1 := ⟨im_yX7_put, se_RX7_yX7_put, in_RX7, co_yX7_put, ⟨rfl, by decide +kernel, by decide +kernel, by decide +kernel⟩, by decide⟩
set_option maxHeartbeats 1000000 in
set_option maxRecDepth 100000 in
theorem c_X7_put (l : Launch) {D : va_G} {ct : Nat → ClassId} {ek ad : Nat → Nat} {N0 : Nat} {X : va_W} {F : State → Prop} (σ : Mem) (ch : Int32) (hc9 : vp_nar .char ch = ch) (hw : LnP σ σ) : MV l yX7_put cX7_put 2 0 D ct ek ad N0 X F [.ref (ad 274), .int ch] σ (fun τ => τ = lnM σ ch) := by
  refine ms0 (own := RX7) (by decide) rfl (Nat.le_of_ble_eq_true rfl) (fun p e s m args below meth c S hr hlocks hnm G hP hS ls hl => ?_)
  have hx := S.1
  have hb := S.2.1
  replace hl : lv_has ls 2 [(0, .ref (ad 274)), (1, .int ch)] := hl
  obtain ⟨L, hL, hw1⟩ := hw.2
  have hwN : σ 274 1 = nI (tN (σ 274 1)) := by rw [hw1]; exact congrArg nI (tN_nI (by omega)).symm
  refine lv_aload_n hx hb dX7_put_0 rfl (lv_at hl 0 rfl) ?_
  refine gf S G hP 274 1 (by decide) oLN rfl inX7 (by decide) fl_RX7_13 rfl rfl dX7_put_1 ?_
  refine lv_bipush (v := 64) hx hb dX7_put_4 (by decide) ?_
  refine lv_icmp_ge (tgt := 29) hx hb dX7_put_6 (by decide) (fun c_6 => ?_) (fun c_6 => ?_)
  · exact eV S hr hlocks hP hS dX7_put_29 (by first | (simp only [lnM, c_6, ↓reduceIte, if_true, if_false, eq_self]; done) | rfl | (simp [lnM, c_6]; done) | grind [lnM])
  · have hlt : tN (σ 274 1) < 64 := by
      rw [hw1, tN_nI (by omega)]
      rw [hw1] at c_6
      have : ¬ 64 ≤ L := fun z => c_6 ((nI_leI (a := 64) (b := L) (by omega) (by omega)).mpr z)
      omega
    refine lv_aload_n hx hb dX7_put_9 rfl (lv_at hl 0 rfl) ?_
    refine gf S G hP 274 0 (by decide) oLN rfl inX7 (by decide) fl_RX7_9 rfl rfl dX7_put_10 ?_
    refine lv_aload_n hx hb dX7_put_13 rfl (lv_at hl 0 rfl) ?_
    refine gf S G hP 274 1 (by decide) oLN rfl inX7 (by decide) fl_RX7_13 rfl rfl dX7_put_14 ?_
    refine lv_iload_n hx hb dX7_put_17 rfl (lv_at hl 1 rfl) ?_
    refine cst S G hP hS 275 (tN (σ 274 1)) (by decide) aLN hwN (by omega) (by decide) hc9 dX7_put_18 (fun H locs hP hS => ?_)
    refine lv_aload_n hx hb dX7_put_19 rfl (lv_at hl 0 rfl) ?_
    refine lv_dup hx hb dX7_put_20 rfl ?_
    refine gf S G hP 274 1 (by decide) oLN rfl inX7 (by decide) fl_RX7_13 rfl rfl dX7_put_21 ?_
    refine lv_tope (y := σ 274 1) (by simp [sg_at]) ?_
    refine lv_iconst (v := 1) hx hb dX7_put_24 (by decide) ?_
    refine lv_iadd hx hb dX7_put_25 ?_
    refine pf S G hP hS 274 1 (x := (σ 274 1) + 1) tyX7 tyX7_ok nmX7 (by decide) oLN rfl inX7 (by decide) fl_RX7_13 rfl rfl rfl rfl (Nat.le_of_ble_eq_true rfl) oLN dX7_put_26 (fun H locs hP hS => ?_)
    exact eV S hr hlocks hP hS dX7_put_29 (by first | (simp only [lnM, c_6, ↓reduceIte, if_true, if_false, eq_self]; done) | rfl | (simp [lnM, c_6]; done) | grind [lnM])

theorem ok_yX7_putNumber : COK RX7 yX7_putNumber cX7_putNumber 2 none 1 := ⟨im_yX7_putNumber, se_RX7_yX7_putNumber, in_RX7, co_yX7_putNumber, ⟨rfl, by decide +kernel, by decide +kernel, by decide +kernel⟩, by decide⟩
set_option maxHeartbeats 1000000 in
set_option maxRecDepth 100000 in
theorem c_X7_putNumber (l : Launch) {D : va_G} {ct : Nat → ClassId} {ek ad : Nat → Nat} {N0 : Nat} {X : va_W} {F : State → Prop} (σ : Mem) (x : Int32) (hw : LnP σ σ) : MV l yX7_putNumber cX7_putNumber 2 1 D ct ek ad N0 X F [.ref (ad 274), .int x] σ (fun τ => τ = lnN σ x) := by
  refine ms0 (own := RX7) (by decide) rfl (Nat.le_of_ble_eq_true rfl) (fun p e s m args below meth c S hr hlocks hnm G hP hS ls hl => ?_)
  have hx := S.1
  have hb := S.2.1
  replace hl : lv_has ls 2 [(0, .ref (ad 274)), (1, .int x)] := hl
  have hw0 := hw
  refine lv_iload_n hx hb dX7_putNumber_0 rfl (lv_at hl 1 rfl) ?_
  refine lv_bipush (v := 9) hx hb dX7_putNumber_1 (by decide) ?_
  have jn_3_1 : ∀ (H : Heap) (locs : List Loc) (ls : Array Slot), wP D ct ek ad X (if x ≤ 9 then σ else lnM σ (chI (48 + x / 10))) H → va_S (fr N0) s.heap H locs → lv_has ls 2 [(0, .ref (ad 274)), (1, .int x)] → W p l e (rmd 1 0 0) s m args below meth c H locs 0 0 (MQ below (wQv D ct ek ad N0 X (fun τ => τ = lnN σ x)) args s 0 0 (fr N0)) (F0 m 18 ls []) := by
    intro H locs ls hP hS hl
    refine lv_aload_n hx hb dX7_putNumber_18 rfl (lv_at hl 0 rfl) ?_
    refine lv_bipush (v := 48) hx hb dX7_putNumber_19 (by decide) ?_
    refine lv_iload_n hx hb dX7_putNumber_21 rfl (lv_at hl 1 rfl) ?_
    refine lv_bipush (v := 10) hx hb dX7_putNumber_22 (by decide) ?_
    refine lv_irem hx hb dX7_putNumber_24 (by decide) ?_
    refine lv_iadd hx hb dX7_putNumber_25 ?_
    refine lv_i2c (v := chI (48 + (x - x / 10 * 10))) hx hb dX7_putNumber_26 rfl ?_
    refine cVve (As := [.int (chI (48 + (x - x / 10 * 10)))]) S G 274 (c_X7_put l (D := D) (ct := ct) (ek := ek) (ad := ad) (N0 := N0) (X := X) (F := F) (if x ≤ 9 then σ else lnM σ (chI (48 + x / 10))) (chI (48 + (x - x / 10 * 10))) (chI_nar _) (LnP_l (σ := σ) (by with_reducible repeat (first | assumption | exact LnP_0 | exact LnP_wp0 | exact LnP_wp1 | exact LnP_wp2 | exact LnP_wpM _ | exact LnP_wbM _ | apply LnP_put | apply LnP_num | apply LnP_if | apply LnP_wbB | apply LnP_wbC)))) ok_yX7_put ml_RX7_23 (by decide) oLN rfl hP hS hl.1 rfl (by decide) rfl rfl (Nat.le_of_ble_eq_true rfl) ⟨Nat.zero_le _, Nat.zero_le _⟩ dX7_putNumber_27 (fun H locs hP hS => ?_)
    exact eV S hr hlocks hP hS dX7_putNumber_30 (by first | rfl | (simp [lnN]; done) | (simp only [lnN, ↓reduceIte, if_true, if_false]; done) | grind [lnN])
  refine lv_icmp_le (tgt := 18) hx hb dX7_putNumber_3 (by decide) (fun c_3 => ?_) (fun c_3 => ?_)
  · exact jn_3_1 _ _ _ (wP_e hP (by first | (simp only [c_3, ↓reduceIte, if_true, if_false]; done) | (simp [c_3]; done) | rfl)) hS (lv_sub hl [0, 1] rfl)
  · refine lv_aload_n hx hb dX7_putNumber_6 rfl (lv_at hl 0 rfl) ?_
    refine lv_bipush (v := 48) hx hb dX7_putNumber_7 (by decide) ?_
    refine lv_iload_n hx hb dX7_putNumber_9 rfl (lv_at hl 1 rfl) ?_
    refine lv_bipush (v := 10) hx hb dX7_putNumber_10 (by decide) ?_
    refine lv_idiv hx hb dX7_putNumber_12 (by decide) ?_
    refine lv_iadd hx hb dX7_putNumber_13 ?_
    refine lv_i2c (v := chI (48 + x / 10)) hx hb dX7_putNumber_14 rfl ?_
    refine cVve (As := [.int (chI (48 + x / 10))]) S G 274 (c_X7_put l (D := D) (ct := ct) (ek := ek) (ad := ad) (N0 := N0) (X := X) (F := F) σ (chI (48 + x / 10)) (chI_nar _) (LnP_l (σ := σ) (by with_reducible repeat (first | assumption | exact LnP_0 | exact LnP_wp0 | exact LnP_wp1 | exact LnP_wp2 | exact LnP_wpM _ | exact LnP_wbM _ | apply LnP_put | apply LnP_num | apply LnP_if | apply LnP_wbB | apply LnP_wbC)))) ok_yX7_put ml_RX7_23 (by decide) oLN rfl hP hS hl.1 rfl (by decide) rfl rfl (Nat.le_of_ble_eq_true rfl) ⟨Nat.zero_le _, Nat.zero_le _⟩ dX7_putNumber_15 (fun H locs hP hS => ?_)
    exact jn_3_1 _ _ _ (wP_e hP (by first | (simp only [c_3, ↓reduceIte, if_true, if_false]; done) | (simp [c_3]; done) | rfl)) hS (lv_sub hl [0, 1] rfl)

theorem ok_yX7_writePerson : COK RX7 yX7_writePerson cX7_writePerson 5 (some .int) 2 := ⟨im_yX7_writePerson, se_RX7_yX7_writePerson, in_RX7, co_yX7_writePerson, ⟨rfl, by decide +kernel, by decide +kernel, by decide +kernel⟩, by decide⟩
set_option maxHeartbeats 1000000 in
set_option maxRecDepth 100000 in
theorem c_X7_writePerson (l : Launch) {D : va_G} {ct : Nat → ClassId} {ek ad : Nat → Nat} {N0 : Nat} {X : va_W} {F : State → Prop} (σ : Mem) (i : Nat) (pb : Nat) (hpb : isP pb) (n : Nat) (hn : σ pb 7 = nI n) (hn6 : n ≤ 6) (hi : i < n) : MI l yX7_writePerson cX7_writePerson 5 (some .int) 2 D ct ek ad N0 X F [.ref (ad 274), .int (nI i), .ref (ad pb)] σ (fun r τ => r = wpM σ pb n i 274 1 ∧ τ = wpM σ pb n i) := by
  refine ms0 (own := RX7) (by decide) rfl (Nat.le_of_ble_eq_true rfl) (fun p e s m args below meth c S hr hlocks hnm G hP hS ls hl => ?_)
  have hx := S.1
  have hb := S.2.1
  replace hl : lv_has ls 5 [(0, .ref (ad 274)), (1, .int (nI i)), (2, .ref (ad pb))] := hl
  have hpl := isP_l hpb
  refine lv_aload_n hx hb dX7_writePerson_0 rfl (lv_at hl 0 rfl) ?_
  refine lv_iconst (v := 0) hx hb dX7_writePerson_1 (by decide) ?_
  refine pf S G hP hS 274 1 (x := 0) tyX7 tyX7_ok nmX7 (by decide) oLN rfl inX7 (by decide) fl_RX7_13 rfl rfl rfl rfl (Nat.le_of_ble_eq_true rfl) oLN dX7_writePerson_2 (fun H locs hP hS => ?_)
  refine lv_aload_n hx hb dX7_writePerson_5 rfl (lv_at hl 0 rfl) ?_
  refine lv_aload_n hx hb dX7_writePerson_6 rfl (lv_at hl 2 rfl) ?_
  refine gfN S G hP pb 2 (isPl0 hpb) (oP hpb) rfl inX8 (by decide) nw_RX7_17 rfl rfl dX7_writePerson_7 ?_
  refine lv_iload_n hx hb dX7_writePerson_10 rfl (lv_at hl 1 rfl) ?_
  refine zld S G hP (pb + 3) i (isPl hpb (by decide)) ((aP3 hpb) _) rfl (by omega) (by decide) dX7_writePerson_11 ?_
  refine lv_tope (y := σ (pb + 3) i) (by rw [sg_n (by omega)]) ?_
  have jn_12_1 : ∀ (H : Heap) (locs : List Loc) (ls : Array Slot), wP D ct ek ad X (sg σ 274 1 0) H → va_S (fr N0) s.heap H locs → lv_has ls 5 [(0, .ref (ad 274)), (1, .int (nI i)), (2, .ref (ad pb))] → W p l e (rmd 2 0 0) s m args below meth c H locs 0 0 (MQ below (wQi D ct ek ad N0 X (fun r τ => r = wpM σ pb n i 274 1 ∧ τ = wpM σ pb n i)) args s 0 0 (fr N0)) (F0 m 22 ls [.int (if σ (pb + 3) i = 0 then 111 else 115), .ref (ad 274)]) := by
    intro H locs ls hP hS hl
    refine cVve (As := [.int (if σ (pb + 3) i = 0 then 111 else 115)]) S G 274 (c_X7_put l (D := D) (ct := ct) (ek := ek) (ad := ad) (N0 := N0) (X := X) (F := F) (sg σ 274 1 0) (if σ (pb + 3) i = 0 then 111 else 115) (by split <;> rfl) (LnP_l (σ := σ) (by with_reducible repeat (first | assumption | exact LnP_0 | exact LnP_wp0 | exact LnP_wp1 | exact LnP_wp2 | exact LnP_wpM _ | exact LnP_wbM _ | apply LnP_put | apply LnP_num | apply LnP_if | apply LnP_wbB | apply LnP_wbC)))) ok_yX7_put ml_RX7_23 (by decide) oLN rfl hP hS hl.1 rfl (by decide) rfl rfl (Nat.le_of_ble_eq_true rfl) ⟨Nat.zero_le _, Nat.zero_le _⟩ dX7_writePerson_22 (fun H locs hP hS => ?_)
    replace hP : wP D ct ek ad X (wp0 σ pb i) H := hP
    refine lv_aload_n hx hb dX7_writePerson_25 rfl (lv_at hl 2 rfl) ?_
    refine lv_iload_n hx hb dX7_writePerson_26 rfl (lv_at hl 1 rfl) ?_
    refine cVie (As := [.int (nI i)]) S G pb (c_X8_sideOf l (D := D) (ct := ct) (ek := ek) (ad := ad) (N0 := N0) (X := X) (F := F) (wp0 σ pb i) pb hpb i (by omega)) ok_yX8_sideOf ml_RX7_27 (isPl0 hpb) (oP hpb) rfl hP hS hl.1 rfl (by decide) rfl rfl (Nat.le_of_ble_eq_true rfl) ⟨Nat.zero_le _, Nat.zero_le _⟩ dX7_writePerson_27 (fun H locs hP hS => ?_)
    refine lv_tope (y := sgnV (σ (pb + 1) i) 0) (by rw [(show LnP ((wp0 σ pb i)) σ from (by with_reducible repeat (first | assumption | exact LnP_0 | exact LnP_wp0 | exact LnP_wp1 | exact LnP_wp2 | exact LnP_wpM _ | exact LnP_wbM _ | apply LnP_put | apply LnP_num | apply LnP_if | apply LnP_wbB | apply LnP_wbC))).1 (pb + 1) (by omega) (by omega)]) ?_
    refine lv_istore_n (lv' := [(3, .int (sgnV (σ (pb + 1) i) 0)), (0, .ref (ad 274)), (1, .int (nI i)), (2, .ref (ad pb))]) hx hb dX7_writePerson_30 rfl hl (by decide) rfl (fun ls hl => ?_)
    refine lv_iload_n hx hb dX7_writePerson_31 rfl (lv_at hl 0 rfl) ?_
    have jn_32_2 : ∀ (H : Heap) (locs : List Loc) (ls : Array Slot), wP D ct ek ad X (wp1 σ pb i) H → va_S (fr N0) s.heap H locs → lv_has ls 5 [(3, .int (sgnV (σ (pb + 1) i) 0)), (0, .ref (ad 274)), (1, .int (nI i)), (2, .ref (ad pb))] → W p l e (rmd 2 0 0) s m args below meth c H locs 0 0 (MQ below (wQi D ct ek ad N0 X (fun r τ => r = wpM σ pb n i 274 1 ∧ τ = wpM σ pb n i)) args s 0 0 (fr N0)) (F0 m 50 ls []) := by
      intro H locs ls hP hS hl
      refine lv_aload_n hx hb dX7_writePerson_50 rfl (lv_at hl 1 rfl) ?_
      refine lv_aload_n hx hb dX7_writePerson_51 rfl (lv_at hl 3 rfl) ?_
      refine gfN S G hP pb 0 (isPl0 hpb) (oP hpb) rfl inX8 (by decide) nw_RX7_31 rfl rfl dX7_writePerson_52 ?_
      refine lv_iload_n hx hb dX7_writePerson_55 rfl (lv_at hl 2 rfl) ?_
      refine ald S G hP (pb + 1) i (isPl hpb (by decide)) ((aP1 hpb) _) rfl (by omega) (by decide) dX7_writePerson_56 ?_
      refine lv_tope (y := σ (pb + 1) i) (by rw [(show LnP (wp1 σ pb i) σ from (by with_reducible repeat (first | assumption | exact LnP_0 | exact LnP_wp0 | exact LnP_wp1 | exact LnP_wp2 | exact LnP_wpM _ | exact LnP_wbM _ | apply LnP_put | apply LnP_num | apply LnP_if | apply LnP_wbB | apply LnP_wbC))).1 (pb + 1) (by omega) (by omega)]) ?_
      refine rabs S rfl (by decide) hl.1 ml_RX7_35 (Nat.le_of_ble_eq_true rfl) ⟨Nat.zero_le _, Nat.zero_le _⟩ dX7_writePerson_57 ?_
      refine cVve (As := [.int (abI (σ (pb + 1) i))]) S G 274 (c_X7_putNumber l (D := D) (ct := ct) (ek := ek) (ad := ad) (N0 := N0) (X := X) (F := F) (wp1 σ pb i) (abI (σ (pb + 1) i)) (LnP_l (σ := σ) (by with_reducible repeat (first | assumption | exact LnP_0 | exact LnP_wp0 | exact LnP_wp1 | exact LnP_wp2 | exact LnP_wpM _ | exact LnP_wbM _ | apply LnP_put | apply LnP_num | apply LnP_if | apply LnP_wbB | apply LnP_wbC)))) ok_yX7_putNumber ml_RX7_40 (by decide) oLN rfl hP hS hl.1 rfl (by decide) rfl rfl (Nat.le_of_ble_eq_true rfl) ⟨Nat.zero_le _, Nat.zero_le _⟩ dX7_writePerson_60 (fun H locs hP hS => ?_)
      refine lv_aload_n hx hb dX7_writePerson_63 rfl (lv_at hl 1 rfl) ?_
      refine lv_bipush (v := 35) hx hb dX7_writePerson_64 (by decide) ?_
      refine cVve (As := [.int 35]) S G 274 (c_X7_put l (D := D) (ct := ct) (ek := ek) (ad := ad) (N0 := N0) (X := X) (F := F) (lnN (wp1 σ pb i) (abI (σ (pb + 1) i))) 35 (by decide) (LnP_l (σ := σ) (by with_reducible repeat (first | assumption | exact LnP_0 | exact LnP_wp0 | exact LnP_wp1 | exact LnP_wp2 | exact LnP_wpM _ | exact LnP_wbM _ | apply LnP_put | apply LnP_num | apply LnP_if | apply LnP_wbB | apply LnP_wbC)))) ok_yX7_put ml_RX7_23 (by decide) oLN rfl hP hS hl.1 rfl (by decide) rfl rfl (Nat.le_of_ble_eq_true rfl) ⟨Nat.zero_le _, Nat.zero_le _⟩ dX7_writePerson_66 (fun H locs hP hS => ?_)
      refine lv_aload_n hx hb dX7_writePerson_69 rfl (lv_at hl 1 rfl) ?_
      refine lv_aload_n hx hb dX7_writePerson_70 rfl (lv_at hl 3 rfl) ?_
      refine gfN S G hP pb 1 (isPl0 hpb) (oP hpb) rfl inX8 (by decide) nw_RX7_44 rfl rfl dX7_writePerson_71 ?_
      refine lv_iload_n hx hb dX7_writePerson_74 rfl (lv_at hl 2 rfl) ?_
      refine ald S G hP (pb + 2) i (isPl hpb (by decide)) ((aP2 hpb) _) rfl (by omega) (by decide) dX7_writePerson_75 ?_
      refine lv_tope (y := σ (pb + 2) i) (by rw [(show LnP (lnM (lnN (wp1 σ pb i) (abI (σ (pb + 1) i))) 35) σ from (by with_reducible repeat (first | assumption | exact LnP_0 | exact LnP_wp0 | exact LnP_wp1 | exact LnP_wp2 | exact LnP_wpM _ | exact LnP_wbM _ | apply LnP_put | apply LnP_num | apply LnP_if | apply LnP_wbB | apply LnP_wbC))).1 (pb + 2) (by omega) (by omega)]) ?_
      refine cVve (As := [.int (σ (pb + 2) i)]) S G 274 (c_X7_putNumber l (D := D) (ct := ct) (ek := ek) (ad := ad) (N0 := N0) (X := X) (F := F) (lnM (lnN (wp1 σ pb i) (abI (σ (pb + 1) i))) 35) (σ (pb + 2) i) (LnP_l (σ := σ) (by with_reducible repeat (first | assumption | exact LnP_0 | exact LnP_wp0 | exact LnP_wp1 | exact LnP_wp2 | exact LnP_wpM _ | exact LnP_wbM _ | apply LnP_put | apply LnP_num | apply LnP_if | apply LnP_wbB | apply LnP_wbC)))) ok_yX7_putNumber ml_RX7_40 (by decide) oLN rfl hP hS hl.1 rfl (by decide) rfl rfl (Nat.le_of_ble_eq_true rfl) ⟨Nat.zero_le _, Nat.zero_le _⟩ dX7_writePerson_76 (fun H locs hP hS => ?_)
      replace hP : wP D ct ek ad X (wp2 σ pb i) H := hP
      refine lv_iconst (v := 0) hx hb dX7_writePerson_79 (by decide) ?_
      refine lv_istore (lv' := [(4, .int 0), (3, .int (sgnV (σ (pb + 1) i) 0)), (0, .ref (ad 274)), (1, .int (nI i)), (2, .ref (ad pb))]) hx hb dX7_writePerson_80 hl (by decide) rfl (fun ls hl => ?_)
      have key_82 : ∀ (d k : Nat), k + d = n → ∀ (H : Heap) (locs : List Loc) (ls : Array Slot), wP D ct ek ad X (wpM σ pb k i) H → va_S (fr N0) s.heap H locs → lv_has ls 5 [(4, .int (nI k)), (3, .int (sgnV (σ (pb + 1) i) 0)), (0, .ref (ad 274)), (1, .int (nI i)), (2, .ref (ad pb))] → W p l e (rmd 2 0 0) s m args below meth c H locs 0 0 (MQ below (wQi D ct ek ad N0 X (fun r τ => r = wpM σ pb n i 274 1 ∧ τ = wpM σ pb n i)) args s 0 0 (fr N0)) (F0 m 82 ls []) := by
        intro d
        induction d with
        | zero =>
          intro k9 hk
          obtain rfl : n = k9 := by omega
          intro  H locs ls hP hS hl
          refine lv_iload hx hb dX7_writePerson_82 (lv_at hl 0 rfl) ?_
          refine lv_aload_n hx hb dX7_writePerson_84 rfl (lv_at hl 4 rfl) ?_
          refine gfN S G hP pb 7 (isPl0 hpb) (oP hpb) rfl inX8 (by decide) nw_RX7_47 rfl rfl dX7_writePerson_85 ?_
          refine lv_icmp_ge (tgt := 140) hx hb dX7_writePerson_88 (by decide) (fun c_88 => ?_) (fun c_88 => absurd (by rw [(show wpM σ pb n i pb 7 = nI n from by rw [(LnP_wpM n).1 pb (by omega) (by omega)]; exact hn)]; exact nI_le (by omega) (by omega)) c_88)
          refine lv_aload_n hx hb dX7_writePerson_140 rfl (lv_at hl 2 rfl) ?_
          refine gf S G hP 274 1 (by decide) oLN rfl inX7 (by decide) fl_RX7_13 rfl rfl dX7_writePerson_141 ?_
          exact eI S hr hlocks hP hS dX7_writePerson_144 (by first | exact ⟨rfl, rfl⟩ | (refine ⟨?_, rfl⟩; simp [c_88]; done) | (simp [c_88]; done) | (simp only [c_88, ↓reduceIte, if_true, if_false, and_self, true_and]; done) | grind [])
        | succ d ih =>
          intro k hk  H locs ls hP hS hl
          have hkn : k < n := by omega
          refine lv_iload hx hb dX7_writePerson_82 (lv_at hl 0 rfl) ?_
          refine lv_aload_n hx hb dX7_writePerson_84 rfl (lv_at hl 4 rfl) ?_
          refine gfN S G hP pb 7 (isPl0 hpb) (oP hpb) rfl inX8 (by decide) nw_RX7_47 rfl rfl dX7_writePerson_85 ?_
          refine lv_icmp_ge (tgt := 140) hx hb dX7_writePerson_88 (by decide) (fun c_88 => absurd c_88 (by rw [(show wpM σ pb k i pb 7 = nI n from by rw [(LnP_wpM k).1 pb (by omega) (by omega)]; exact hn)]; exact nI_ge (by omega) (by omega))) (fun c_88 => ?_)
          refine lv_aload_n hx hb dX7_writePerson_91 rfl (lv_at hl 4 rfl) ?_
          refine gfN S G hP pb 5 (isPl0 hpb) (oP hpb) rfl inX8 (by decide) nw_RX7_50 rfl rfl dX7_writePerson_92 ?_
          refine lv_iload_n hx hb dX7_writePerson_95 rfl (lv_at hl 3 rfl) ?_
          refine gld S G hP (pb + 6) i (isPl hpb (by decide)) ((gP6 hpb) _) rfl (by omega) (by decide) (if_pos (by omega)) dX7_writePerson_96 ?_
          refine lv_iload hx hb dX7_writePerson_97 (lv_at hl 0 rfl) ?_
          refine ald S G hP (pb + 7 + i) k (isPlw hpb (by omega)) ((aPw hpb (by omega)) _) rfl (by omega) (by decide) dX7_writePerson_99 ?_
          refine lv_tope (y := σ (pb + 7 + i) k) (by rw [(show LnP (wpM σ pb k i) σ from (by with_reducible repeat (first | assumption | exact LnP_0 | exact LnP_wp0 | exact LnP_wp1 | exact LnP_wp2 | exact LnP_wpM _ | exact LnP_wbM _ | apply LnP_put | apply LnP_num | apply LnP_if | apply LnP_wbB | apply LnP_wbC))).1 (pb + 7 + i) (by omega) (by omega)]) ?_
          have jn_100_3 : ∀ (H : Heap) (locs : List Loc) (ls : Array Slot), wP D ct ek ad X (wpM σ pb (k + 1) i) H → va_S (fr N0) s.heap H locs → lv_has ls 5 [(4, .int (nI k)), (3, .int (sgnV (σ (pb + 1) i) 0)), (0, .ref (ad 274)), (1, .int (nI i)), (2, .ref (ad pb))] → W p l e (rmd 2 0 0) s m args below meth c H locs 0 0 (MQ below (wQi D ct ek ad N0 X (fun r τ => r = wpM σ pb n i 274 1 ∧ τ = wpM σ pb n i)) args s 0 0 (fr N0)) (F0 m 134 ls []) := by
            intro H locs ls hP hS hl
            refine lv_iinc (v := nI (k + 1)) (lv' := [(4, .int (nI (k + 1))), (3, .int (sgnV (σ (pb + 1) i) 0)), (0, .ref (ad 274)), (1, .int (nI i)), (2, .ref (ad pb))]) hx hb dX7_writePerson_134 hl (k := 0) rfl (nI_inc _) (by decide) rfl (fun ls hl => ?_)
            refine lv_goto (tgt := 82) hx hb dX7_writePerson_137 (by decide) ?_
            exact ih (k + 1) (by omega)  _ _ _ hP hS (by first | exact lv_sub hl [0, 1, 2, 3, 4] rfl | (refine lv_v (lv_sub (l' := [(4, .int (nI (k + 1))), (3, .int (sgnV (σ (pb + 1) i) 0)), (0, .ref (ad 274)), (1, .int (nI i)), (2, .ref (ad pb))]) hl [0, 1, 2, 3, 4] rfl) ?_; simp [fo, c_88]; done))
          refine lv_if_eq (tgt := 134) hx hb dX7_writePerson_100 (by decide) (fun c_100 => ?_) (fun c_100 => ?_)
          · exact jn_100_3 _ _ _ (wP_e hP (by first | exact (if_pos c_100).symm | exact (if_neg c_100).symm)) hS (lv_sub hl [0, 1, 2, 3, 4] rfl)
          · refine lv_aload_n hx hb dX7_writePerson_103 rfl (lv_at hl 2 rfl) ?_
            refine lv_bipush (v := 32) hx hb dX7_writePerson_104 (by decide) ?_
            refine cVve (As := [.int 32]) S G 274 (c_X7_put l (D := D) (ct := ct) (ek := ek) (ad := ad) (N0 := N0) (X := X) (F := F) (wpM σ pb k i) 32 (by decide) (LnP_l (σ := σ) (by with_reducible repeat (first | assumption | exact LnP_0 | exact LnP_wp0 | exact LnP_wp1 | exact LnP_wp2 | exact LnP_wpM _ | exact LnP_wbM _ | apply LnP_put | apply LnP_num | apply LnP_if | apply LnP_wbB | apply LnP_wbC)))) ok_yX7_put ml_RX7_23 (by decide) oLN rfl hP hS hl.1 rfl (by decide) rfl rfl (Nat.le_of_ble_eq_true rfl) ⟨Nat.zero_le _, Nat.zero_le _⟩ dX7_writePerson_106 (fun H locs hP hS => ?_)
            refine lv_aload_n hx hb dX7_writePerson_109 rfl (lv_at hl 2 rfl) ?_
            refine lv_iload hx hb dX7_writePerson_110 (lv_at hl 0 rfl) ?_
            refine cVve (As := [.int (nI k)]) S G 274 (c_X7_putNumber l (D := D) (ct := ct) (ek := ek) (ad := ad) (N0 := N0) (X := X) (F := F) (lnM (wpM σ pb k i) 32) (nI k) (LnP_l (σ := σ) (by with_reducible repeat (first | assumption | exact LnP_0 | exact LnP_wp0 | exact LnP_wp1 | exact LnP_wp2 | exact LnP_wpM _ | exact LnP_wbM _ | apply LnP_put | apply LnP_num | apply LnP_if | apply LnP_wbB | apply LnP_wbC)))) ok_yX7_putNumber ml_RX7_40 (by decide) oLN rfl hP hS hl.1 rfl (by decide) rfl rfl (Nat.le_of_ble_eq_true rfl) ⟨Nat.zero_le _, Nat.zero_le _⟩ dX7_writePerson_112 (fun H locs hP hS => ?_)
            refine lv_aload_n hx hb dX7_writePerson_115 rfl (lv_at hl 2 rfl) ?_
            refine lv_bipush (v := 42) hx hb dX7_writePerson_116 (by decide) ?_
            refine cVve (As := [.int 42]) S G 274 (c_X7_put l (D := D) (ct := ct) (ek := ek) (ad := ad) (N0 := N0) (X := X) (F := F) (lnN (lnM (wpM σ pb k i) 32) (nI k)) 42 (by decide) (LnP_l (σ := σ) (by with_reducible repeat (first | assumption | exact LnP_0 | exact LnP_wp0 | exact LnP_wp1 | exact LnP_wp2 | exact LnP_wpM _ | exact LnP_wbM _ | apply LnP_put | apply LnP_num | apply LnP_if | apply LnP_wbB | apply LnP_wbC)))) ok_yX7_put ml_RX7_23 (by decide) oLN rfl hP hS hl.1 rfl (by decide) rfl rfl (Nat.le_of_ble_eq_true rfl) ⟨Nat.zero_le _, Nat.zero_le _⟩ dX7_writePerson_118 (fun H locs hP hS => ?_)
            refine lv_aload_n hx hb dX7_writePerson_121 rfl (lv_at hl 2 rfl) ?_
            refine lv_aload_n hx hb dX7_writePerson_122 rfl (lv_at hl 4 rfl) ?_
            refine gfN S G hP pb 5 (isPl0 hpb) (oP hpb) rfl inX8 (by decide) nw_RX7_50 rfl rfl dX7_writePerson_123 ?_
            refine lv_iload_n hx hb dX7_writePerson_126 rfl (lv_at hl 3 rfl) ?_
            refine gld S G hP (pb + 6) i (isPl hpb (by decide)) ((gP6 hpb) _) rfl (by omega) (by decide) (if_pos (by omega)) dX7_writePerson_127 ?_
            refine lv_iload hx hb dX7_writePerson_128 (lv_at hl 0 rfl) ?_
            refine ald S G hP (pb + 7 + i) k (isPlw hpb (by omega)) ((aPw hpb (by omega)) _) rfl (by omega) (by decide) dX7_writePerson_130 ?_
            refine lv_tope (y := σ (pb + 7 + i) k) (by rw [(show LnP (lnM (lnN (lnM (wpM σ pb k i) 32) (nI k)) 42) σ from (by with_reducible repeat (first | assumption | exact LnP_0 | exact LnP_wp0 | exact LnP_wp1 | exact LnP_wp2 | exact LnP_wpM _ | exact LnP_wbM _ | apply LnP_put | apply LnP_num | apply LnP_if | apply LnP_wbB | apply LnP_wbC))).1 (pb + 7 + i) (by omega) (by omega)]) ?_
            refine cVve (As := [.int (σ (pb + 7 + i) k)]) S G 274 (c_X7_putNumber l (D := D) (ct := ct) (ek := ek) (ad := ad) (N0 := N0) (X := X) (F := F) (lnM (lnN (lnM (wpM σ pb k i) 32) (nI k)) 42) (σ (pb + 7 + i) k) (LnP_l (σ := σ) (by with_reducible repeat (first | assumption | exact LnP_0 | exact LnP_wp0 | exact LnP_wp1 | exact LnP_wp2 | exact LnP_wpM _ | exact LnP_wbM _ | apply LnP_put | apply LnP_num | apply LnP_if | apply LnP_wbB | apply LnP_wbC)))) ok_yX7_putNumber ml_RX7_40 (by decide) oLN rfl hP hS hl.1 rfl (by decide) rfl rfl (Nat.le_of_ble_eq_true rfl) ⟨Nat.zero_le _, Nat.zero_le _⟩ dX7_writePerson_131 (fun H locs hP hS => ?_)
            exact jn_100_3 _ _ _ (wP_e hP (by first | exact (if_pos c_100).symm | exact (if_neg c_100).symm)) hS (lv_sub hl [0, 1, 2, 3, 4] rfl)
      exact key_82 n 0 (by omega)  _ _ _ (wP_e hP rfl) hS (lv_sub hl [0, 1, 2, 3, 4] rfl)
    refine lv_if_eq (tgt := 50) hx hb dX7_writePerson_32 (by decide) (fun c_32 => ?_) (fun c_32 => ?_)
    · exact jn_32_2 _ _ _ (wP_e hP (by first | rw [wp1, if_pos c_32] | rw [wp1, if_neg c_32])) hS (lv_sub hl [0, 1, 2, 3] rfl)
    · refine lv_aload_n hx hb dX7_writePerson_35 rfl (lv_at hl 1 rfl) ?_
      refine lv_iload_n hx hb dX7_writePerson_36 rfl (lv_at hl 0 rfl) ?_
      have jn_37_4 : ∀ (H : Heap) (locs : List Loc) (ls : Array Slot), wP D ct ek ad X (wp0 σ pb i) H → va_S (fr N0) s.heap H locs → lv_has ls 5 [(3, .int (sgnV (σ (pb + 1) i) 0)), (0, .ref (ad 274)), (1, .int (nI i)), (2, .ref (ad pb))] → W p l e (rmd 2 0 0) s m args below meth c H locs 0 0 (MQ below (wQi D ct ek ad N0 X (fun r τ => r = wpM σ pb n i 274 1 ∧ τ = wpM σ pb n i)) args s 0 0 (fr N0)) (F0 m 47 ls [.int (if sgnV (σ (pb + 1) i) 0 ≤ 0 then 45 else 43), .ref (ad 274)]) := by
        intro H locs ls hP hS hl
        refine cVve (As := [.int (if sgnV (σ (pb + 1) i) 0 ≤ 0 then 45 else 43)]) S G 274 (c_X7_put l (D := D) (ct := ct) (ek := ek) (ad := ad) (N0 := N0) (X := X) (F := F) (wp0 σ pb i) (if sgnV (σ (pb + 1) i) 0 ≤ 0 then 45 else 43) (by split <;> rfl) (LnP_l (σ := σ) (by with_reducible repeat (first | assumption | exact LnP_0 | exact LnP_wp0 | exact LnP_wp1 | exact LnP_wp2 | exact LnP_wpM _ | exact LnP_wbM _ | apply LnP_put | apply LnP_num | apply LnP_if | apply LnP_wbB | apply LnP_wbC)))) ok_yX7_put ml_RX7_23 (by decide) oLN rfl hP hS hl.1 rfl (by decide) rfl rfl (Nat.le_of_ble_eq_true rfl) ⟨Nat.zero_le _, Nat.zero_le _⟩ dX7_writePerson_47 (fun H locs hP hS => ?_)
        exact jn_32_2 _ _ _ (wP_e hP (by first | rw [wp1, if_pos c_32] | rw [wp1, if_neg c_32])) hS (lv_sub hl [0, 1, 2, 3] rfl)
      refine lv_if_le (tgt := 45) hx hb dX7_writePerson_37 (by decide) (fun c_37 => ?_) (fun c_37 => ?_)
      · refine lv_bipush (v := 45) hx hb dX7_writePerson_45 (by decide) ?_
        refine lv_tope (y := if sgnV (σ (pb + 1) i) 0 ≤ 0 then 45 else 43) (by first | (simp only [c_32, c_37, ↓reduceIte, if_true, if_false]; done) | (simp [c_32, c_37]; done) | rfl) ?_
        exact jn_37_4 _ _ _ hP hS (lv_sub hl [0, 1, 2, 3] rfl)
      · refine lv_bipush (v := 43) hx hb dX7_writePerson_40 (by decide) ?_
        refine lv_goto (tgt := 47) hx hb dX7_writePerson_42 (by decide) ?_
        refine lv_tope (y := if sgnV (σ (pb + 1) i) 0 ≤ 0 then 45 else 43) (by first | (simp only [c_32, c_37, ↓reduceIte, if_true, if_false]; done) | (simp [c_32, c_37]; done) | rfl) ?_
        exact jn_37_4 _ _ _ hP hS (lv_sub hl [0, 1, 2, 3] rfl)
  refine lv_if_eq (tgt := 20) hx hb dX7_writePerson_12 (by decide) (fun c_12 => ?_) (fun c_12 => ?_)
  · refine lv_bipush (v := 111) hx hb dX7_writePerson_20 (by decide) ?_
    refine lv_tope (y := if σ (pb + 3) i = 0 then 111 else 115) (by first | (simp only [c_12, ↓reduceIte, if_true, if_false]; done) | (simp [c_12]; done) | rfl) ?_
    exact jn_12_1 _ _ _ hP hS (lv_sub hl [0, 1, 2] rfl)
  · refine lv_bipush (v := 115) hx hb dX7_writePerson_15 (by decide) ?_
    refine lv_goto (tgt := 22) hx hb dX7_writePerson_17 (by decide) ?_
    refine lv_tope (y := if σ (pb + 3) i = 0 then 111 else 115) (by first | (simp only [c_12, ↓reduceIte, if_true, if_false]; done) | (simp [c_12]; done) | rfl) ?_
    exact jn_12_1 _ _ _ hP hS (lv_sub hl [0, 1, 2] rfl)

theorem ok_yX7_writeBeams : COK RX7 yX7_writeBeams cX7_writeBeams 4 (some .int) 1 := ⟨im_yX7_writeBeams, se_RX7_yX7_writeBeams, in_RX7, co_yX7_writeBeams, ⟨rfl, by decide +kernel, by decide +kernel, by decide +kernel⟩, by decide⟩
set_option maxHeartbeats 1000000 in
set_option maxRecDepth 100000 in
theorem c_X7_writeBeams (l : Launch) {D : va_G} {ct : Nat → ClassId} {ek ad : Nat → Nat} {N0 : Nat} {X : va_W} {F : State → Prop} (σ : Mem) (bb : Nat) (hbb : isB bb) (mb : Nat) (hm : σ bb 4 = nI mb) (hm6 : mb ≤ 6) (hck : ∀ q, q < mb → σ (bb + 4) q = nI (tN (σ (bb + 4) q)) ∧ tN (σ (bb + 4) q) ≤ 9) : MI l yX7_writeBeams cX7_writeBeams 4 (some .int) 2 D ct ek ad N0 X F [.ref (ad 274), .ref (ad bb)] σ (fun r τ => r = wbM σ bb mb 274 1 ∧ τ = wbM σ bb mb) := by
  refine ms0 (own := RX7) (by decide) rfl (Nat.le_of_ble_eq_true rfl) (fun p e s m args below meth c S hr hlocks hnm G hP hS ls hl => ?_)
  have hx := S.1
  have hb := S.2.1
  replace hl : lv_has ls 4 [(0, .ref (ad 274)), (1, .ref (ad bb))] := hl
  have hbl := isB_l hbb
  refine lv_aload_n hx hb dX7_writeBeams_0 rfl (lv_at hl 0 rfl) ?_
  refine lv_iconst (v := 0) hx hb dX7_writeBeams_1 (by decide) ?_
  refine pf S G hP hS 274 1 (x := 0) tyX7 tyX7_ok nmX7 (by decide) oLN rfl inX7 (by decide) fl_RX7_13 rfl rfl rfl rfl (Nat.le_of_ble_eq_true rfl) oLN dX7_writeBeams_2 (fun H locs hP hS => ?_)
  refine lv_iconst (v := 0) hx hb dX7_writeBeams_5 (by decide) ?_
  refine lv_istore_n (lv' := [(2, .int 0), (0, .ref (ad 274)), (1, .ref (ad bb))]) hx hb dX7_writeBeams_6 rfl hl (by decide) rfl (fun ls hl => ?_)
  have key_7 : ∀ (d k : Nat), k + d = mb → ∀ (H : Heap) (locs : List Loc) (ls : Array Slot), wP D ct ek ad X (wbM σ bb k) H → va_S (fr N0) s.heap H locs → lv_has ls 4 [(2, .int (nI k)), (0, .ref (ad 274)), (1, .ref (ad bb))] → W p l e (rmd 2 0 0) s m args below meth c H locs 0 0 (MQ below (wQi D ct ek ad N0 X (fun r τ => r = wbM σ bb mb 274 1 ∧ τ = wbM σ bb mb)) args s 0 0 (fr N0)) (F0 m 7 ls []) := by
    intro d
    induction d with
    | zero =>
      intro k9 hk
      obtain rfl : mb = k9 := by omega
      intro  H locs ls hP hS hl
      refine lv_iload_n hx hb dX7_writeBeams_7 rfl (lv_at hl 0 rfl) ?_
      refine lv_aload_n hx hb dX7_writeBeams_8 rfl (lv_at hl 2 rfl) ?_
      refine gfN S G hP bb 4 (isBl0 hbb) (oB hbb) rfl inX1 (by decide) nw_RX7_54 rfl rfl dX7_writeBeams_9 ?_
      refine lv_icmp_ge (tgt := 97) hx hb dX7_writeBeams_12 (by decide) (fun c_12 => ?_) (fun c_12 => absurd (by rw [(show wbM σ bb mb bb 4 = nI mb from by rw [(LnP_wbM mb).1 bb (by omega) (by omega)]; exact hm)]; exact nI_le (by omega) (by omega)) c_12)
      refine lv_aload_n hx hb dX7_writeBeams_97 rfl (lv_at hl 1 rfl) ?_
      refine gf S G hP 274 1 (by decide) oLN rfl inX7 (by decide) fl_RX7_13 rfl rfl dX7_writeBeams_98 ?_
      exact eI S hr hlocks hP hS dX7_writeBeams_101 (by first | exact ⟨rfl, rfl⟩ | (refine ⟨?_, rfl⟩; simp [c_12]; done) | (simp [c_12]; done) | (simp only [c_12, ↓reduceIte, if_true, if_false, and_self, true_and]; done) | grind [])
    | succ d ih =>
      intro k hk  H locs ls hP hS hl
      have hkn : k < mb := by omega
      have hq9 := (hck k hkn).2
      refine lv_iload_n hx hb dX7_writeBeams_7 rfl (lv_at hl 0 rfl) ?_
      refine lv_aload_n hx hb dX7_writeBeams_8 rfl (lv_at hl 2 rfl) ?_
      refine gfN S G hP bb 4 (isBl0 hbb) (oB hbb) rfl inX1 (by decide) nw_RX7_54 rfl rfl dX7_writeBeams_9 ?_
      refine lv_icmp_ge (tgt := 97) hx hb dX7_writeBeams_12 (by decide) (fun c_12 => absurd c_12 (by rw [(show wbM σ bb k bb 4 = nI mb from by rw [(LnP_wbM k).1 bb (by omega) (by omega)]; exact hm)]; exact nI_ge (by omega) (by omega))) (fun c_12 => ?_)
      refine lv_iload_n hx hb dX7_writeBeams_15 rfl (lv_at hl 0 rfl) ?_
      have jn_16_1 : ∀ (H : Heap) (locs : List Loc) (ls : Array Slot), wP D ct ek ad X (if nI k ≤ 0 then wbM σ bb k else lnM (wbM σ bb k) 32) H → va_S (fr N0) s.heap H locs → lv_has ls 4 [(2, .int (nI k)), (0, .ref (ad 274)), (1, .ref (ad bb))] → W p l e (rmd 2 0 0) s m args below meth c H locs 0 0 (MQ below (wQi D ct ek ad N0 X (fun r τ => r = wbM σ bb mb 274 1 ∧ τ = wbM σ bb mb)) args s 0 0 (fr N0)) (F0 m 25 ls []) := by
        intro H locs ls hP hS hl
        refine lv_aload_n hx hb dX7_writeBeams_25 rfl (lv_at hl 1 rfl) ?_
        refine lv_aload_n hx hb dX7_writeBeams_26 rfl (lv_at hl 2 rfl) ?_
        refine gfN S G hP bb 0 (isBl0 hbb) (oB hbb) rfl inX1 (by decide) nw_RX7_57 rfl rfl dX7_writeBeams_27 ?_
        refine lv_iload_n hx hb dX7_writeBeams_30 rfl (lv_at hl 0 rfl) ?_
        refine ald S G hP (bb + 1) k (isBl hbb (by decide)) ((aB1 hbb) _) rfl (by omega) (by decide) dX7_writeBeams_31 ?_
        refine lv_tope (y := σ (bb + 1) k) (by rw [(show LnP (if nI k ≤ 0 then wbM σ bb k else lnM (wbM σ bb k) 32) σ from (by with_reducible repeat (first | assumption | exact LnP_0 | exact LnP_wp0 | exact LnP_wp1 | exact LnP_wp2 | exact LnP_wpM _ | exact LnP_wbM _ | apply LnP_put | apply LnP_num | apply LnP_if | apply LnP_wbB | apply LnP_wbC))).1 (bb + 1) (by omega) (by omega)]) ?_
        refine cVve (As := [.int (σ (bb + 1) k)]) S G 274 (c_X7_putNumber l (D := D) (ct := ct) (ek := ek) (ad := ad) (N0 := N0) (X := X) (F := F) (if nI k ≤ 0 then wbM σ bb k else lnM (wbM σ bb k) 32) (σ (bb + 1) k) (LnP_l (σ := σ) (by with_reducible repeat (first | assumption | exact LnP_0 | exact LnP_wp0 | exact LnP_wp1 | exact LnP_wp2 | exact LnP_wpM _ | exact LnP_wbM _ | apply LnP_put | apply LnP_num | apply LnP_if | apply LnP_wbB | apply LnP_wbC)))) ok_yX7_putNumber ml_RX7_40 (by decide) oLN rfl hP hS hl.1 rfl (by decide) rfl rfl (Nat.le_of_ble_eq_true rfl) ⟨Nat.zero_le _, Nat.zero_le _⟩ dX7_writeBeams_32 (fun H locs hP hS => ?_)
        refine lv_aload_n hx hb dX7_writeBeams_35 rfl (lv_at hl 1 rfl) ?_
        refine lv_bipush (v := 45) hx hb dX7_writeBeams_36 (by decide) ?_
        refine cVve (As := [.int 45]) S G 274 (c_X7_put l (D := D) (ct := ct) (ek := ek) (ad := ad) (N0 := N0) (X := X) (F := F) (lnN (if nI k ≤ 0 then wbM σ bb k else lnM (wbM σ bb k) 32) (σ (bb + 1) k)) 45 (by decide) (LnP_l (σ := σ) (by with_reducible repeat (first | assumption | exact LnP_0 | exact LnP_wp0 | exact LnP_wp1 | exact LnP_wp2 | exact LnP_wpM _ | exact LnP_wbM _ | apply LnP_put | apply LnP_num | apply LnP_if | apply LnP_wbB | apply LnP_wbC)))) ok_yX7_put ml_RX7_23 (by decide) oLN rfl hP hS hl.1 rfl (by decide) rfl rfl (Nat.le_of_ble_eq_true rfl) ⟨Nat.zero_le _, Nat.zero_le _⟩ dX7_writeBeams_38 (fun H locs hP hS => ?_)
        refine lv_aload_n hx hb dX7_writeBeams_41 rfl (lv_at hl 1 rfl) ?_
        refine lv_aload_n hx hb dX7_writeBeams_42 rfl (lv_at hl 2 rfl) ?_
        refine gfN S G hP bb 1 (isBl0 hbb) (oB hbb) rfl inX1 (by decide) nw_RX7_60 rfl rfl dX7_writeBeams_43 ?_
        refine lv_iload_n hx hb dX7_writeBeams_46 rfl (lv_at hl 0 rfl) ?_
        refine ald S G hP (bb + 2) k (isBl hbb (by decide)) ((aB2 hbb) _) rfl (by omega) (by decide) dX7_writeBeams_47 ?_
        refine lv_tope (y := σ (bb + 2) k) (by rw [(show LnP (lnM (lnN (if nI k ≤ 0 then wbM σ bb k else lnM (wbM σ bb k) 32) (σ (bb + 1) k)) 45) σ from (by with_reducible repeat (first | assumption | exact LnP_0 | exact LnP_wp0 | exact LnP_wp1 | exact LnP_wp2 | exact LnP_wpM _ | exact LnP_wbM _ | apply LnP_put | apply LnP_num | apply LnP_if | apply LnP_wbB | apply LnP_wbC))).1 (bb + 2) (by omega) (by omega)]) ?_
        refine cVve (As := [.int (σ (bb + 2) k)]) S G 274 (c_X7_putNumber l (D := D) (ct := ct) (ek := ek) (ad := ad) (N0 := N0) (X := X) (F := F) (lnM (lnN (if nI k ≤ 0 then wbM σ bb k else lnM (wbM σ bb k) 32) (σ (bb + 1) k)) 45) (σ (bb + 2) k) (LnP_l (σ := σ) (by with_reducible repeat (first | assumption | exact LnP_0 | exact LnP_wp0 | exact LnP_wp1 | exact LnP_wp2 | exact LnP_wpM _ | exact LnP_wbM _ | apply LnP_put | apply LnP_num | apply LnP_if | apply LnP_wbB | apply LnP_wbC)))) ok_yX7_putNumber ml_RX7_40 (by decide) oLN rfl hP hS hl.1 rfl (by decide) rfl rfl (Nat.le_of_ble_eq_true rfl) ⟨Nat.zero_le _, Nat.zero_le _⟩ dX7_writeBeams_48 (fun H locs hP hS => ?_)
        refine lv_aload_n hx hb dX7_writeBeams_51 rfl (lv_at hl 1 rfl) ?_
        refine lv_bipush (v := 60) hx hb dX7_writeBeams_52 (by decide) ?_
        refine cVve (As := [.int 60]) S G 274 (c_X7_put l (D := D) (ct := ct) (ek := ek) (ad := ad) (N0 := N0) (X := X) (F := F) (lnN (lnM (lnN (if nI k ≤ 0 then wbM σ bb k else lnM (wbM σ bb k) 32) (σ (bb + 1) k)) 45) (σ (bb + 2) k)) 60 (by decide) (LnP_l (σ := σ) (by with_reducible repeat (first | assumption | exact LnP_0 | exact LnP_wp0 | exact LnP_wp1 | exact LnP_wp2 | exact LnP_wpM _ | exact LnP_wbM _ | apply LnP_put | apply LnP_num | apply LnP_if | apply LnP_wbB | apply LnP_wbC)))) ok_yX7_put ml_RX7_23 (by decide) oLN rfl hP hS hl.1 rfl (by decide) rfl rfl (Nat.le_of_ble_eq_true rfl) ⟨Nat.zero_le _, Nat.zero_le _⟩ dX7_writeBeams_54 (fun H locs hP hS => ?_)
        refine lv_aload_n hx hb dX7_writeBeams_57 rfl (lv_at hl 1 rfl) ?_
        refine lv_aload_n hx hb dX7_writeBeams_58 rfl (lv_at hl 2 rfl) ?_
        refine gfN S G hP bb 2 (isBl0 hbb) (oB hbb) rfl inX1 (by decide) nw_RX7_63 rfl rfl dX7_writeBeams_59 ?_
        refine lv_iload_n hx hb dX7_writeBeams_62 rfl (lv_at hl 0 rfl) ?_
        refine ald S G hP (bb + 3) k (isBl hbb (by decide)) ((aB3 hbb) _) rfl (by omega) (by decide) dX7_writeBeams_63 ?_
        refine lv_tope (y := σ (bb + 3) k) (by rw [(show LnP (lnM (lnN (lnM (lnN (if nI k ≤ 0 then wbM σ bb k else lnM (wbM σ bb k) 32) (σ (bb + 1) k)) 45) (σ (bb + 2) k)) 60) σ from (by with_reducible repeat (first | assumption | exact LnP_0 | exact LnP_wp0 | exact LnP_wp1 | exact LnP_wp2 | exact LnP_wpM _ | exact LnP_wbM _ | apply LnP_put | apply LnP_num | apply LnP_if | apply LnP_wbB | apply LnP_wbC))).1 (bb + 3) (by omega) (by omega)]) ?_
        refine cVve (As := [.int (σ (bb + 3) k)]) S G 274 (c_X7_putNumber l (D := D) (ct := ct) (ek := ek) (ad := ad) (N0 := N0) (X := X) (F := F) (lnM (lnN (lnM (lnN (if nI k ≤ 0 then wbM σ bb k else lnM (wbM σ bb k) 32) (σ (bb + 1) k)) 45) (σ (bb + 2) k)) 60) (σ (bb + 3) k) (LnP_l (σ := σ) (by with_reducible repeat (first | assumption | exact LnP_0 | exact LnP_wp0 | exact LnP_wp1 | exact LnP_wp2 | exact LnP_wpM _ | exact LnP_wbM _ | apply LnP_put | apply LnP_num | apply LnP_if | apply LnP_wbB | apply LnP_wbC)))) ok_yX7_putNumber ml_RX7_40 (by decide) oLN rfl hP hS hl.1 rfl (by decide) rfl rfl (Nat.le_of_ble_eq_true rfl) ⟨Nat.zero_le _, Nat.zero_le _⟩ dX7_writeBeams_64 (fun H locs hP hS => ?_)
        refine lv_iconst (v := 0) hx hb dX7_writeBeams_67 (by decide) ?_
        refine lv_istore_n (lv' := [(3, .int 0), (2, .int (nI k)), (0, .ref (ad 274)), (1, .ref (ad bb))]) hx hb dX7_writeBeams_68 rfl hl (by decide) rfl (fun ls hl => ?_)
        have key_69 : ∀ (d2 t : Nat), t + d2 = tN (σ (bb + 4) k) → ∀ (H : Heap) (locs : List Loc) (ls : Array Slot), wP D ct ek ad X (wbC (wbB σ bb k (wbM σ bb k)) t) H → va_S (fr N0) s.heap H locs → lv_has ls 4 [(3, .int (nI t)), (2, .int (nI k)), (0, .ref (ad 274)), (1, .ref (ad bb))] → W p l e (rmd 2 0 0) s m args below meth c H locs 0 0 (MQ below (wQi D ct ek ad N0 X (fun r τ => r = wbM σ bb mb 274 1 ∧ τ = wbM σ bb mb)) args s 0 0 (fr N0)) (F0 m 69 ls []) := by
          intro d2
          induction d2 with
          | zero =>
            intro k9 hk
            obtain rfl : tN (σ (bb + 4) k) = k9 := by omega
            intro  H locs ls hP hS hl
            refine lv_iload_n hx hb dX7_writeBeams_69 rfl (lv_at hl 0 rfl) ?_
            refine lv_aload_n hx hb dX7_writeBeams_70 rfl (lv_at hl 3 rfl) ?_
            refine gfN S G hP bb 3 (isBl0 hbb) (oB hbb) rfl inX1 (by decide) nw_RX7_66 rfl rfl dX7_writeBeams_71 ?_
            refine lv_iload_n hx hb dX7_writeBeams_74 rfl (lv_at hl 1 rfl) ?_
            refine ald S G hP (bb + 4) k (isBl hbb (by decide)) ((aB4 hbb) _) rfl (by omega) (by decide) dX7_writeBeams_75 ?_
            refine lv_tope (y := nI (tN (σ (bb + 4) k))) (by rw [(show LnP (wbC (wbB σ bb k (wbM σ bb k)) (tN (σ (bb + 4) k))) σ from (by with_reducible repeat (first | assumption | exact LnP_0 | exact LnP_wp0 | exact LnP_wp1 | exact LnP_wp2 | exact LnP_wpM _ | exact LnP_wbM _ | apply LnP_put | apply LnP_num | apply LnP_if | apply LnP_wbB | apply LnP_wbC))).1 (bb + 4) (by omega) (by omega)]; exact (hck k hkn).1) ?_
            refine lv_icmp_ge (tgt := 91) hx hb dX7_writeBeams_76 (by decide) (fun c_76 => ?_) (fun c_76 => absurd (nI_le (by omega) (by omega)) c_76)
            refine lv_iinc (v := nI (k + 1)) (lv' := [(2, .int (nI (k + 1))), (3, .int (nI (tN (σ (bb + 4) k)))), (0, .ref (ad 274)), (1, .ref (ad bb))]) hx hb dX7_writeBeams_91 hl (k := 1) rfl (nI_inc _) (by decide) rfl (fun ls hl => ?_)
            refine lv_goto (tgt := 7) hx hb dX7_writeBeams_94 (by decide) ?_
            exact ih (k + 1) (by omega)  _ _ _ (wP_e hP rfl) hS (by first | (refine lv_v (lv_sub (l' := [(2, .int (nI (k + 1))), (0, .ref (ad 274)), (1, .ref (ad bb))]) hl [0, 2, 3] rfl) ?_; simp [fo, c_12, c_76]; done) | exact lv_sub hl [0, 2, 3] rfl)
          | succ d2 ih =>
            intro t hk  H locs ls hP hS hl
            have htn : t < tN (σ (bb + 4) k) := by omega
            refine lv_iload_n hx hb dX7_writeBeams_69 rfl (lv_at hl 0 rfl) ?_
            refine lv_aload_n hx hb dX7_writeBeams_70 rfl (lv_at hl 3 rfl) ?_
            refine gfN S G hP bb 3 (isBl0 hbb) (oB hbb) rfl inX1 (by decide) nw_RX7_66 rfl rfl dX7_writeBeams_71 ?_
            refine lv_iload_n hx hb dX7_writeBeams_74 rfl (lv_at hl 1 rfl) ?_
            refine ald S G hP (bb + 4) k (isBl hbb (by decide)) ((aB4 hbb) _) rfl (by omega) (by decide) dX7_writeBeams_75 ?_
            refine lv_tope (y := nI (tN (σ (bb + 4) k))) (by rw [(show LnP (wbC (wbB σ bb k (wbM σ bb k)) t) σ from (by with_reducible repeat (first | assumption | exact LnP_0 | exact LnP_wp0 | exact LnP_wp1 | exact LnP_wp2 | exact LnP_wpM _ | exact LnP_wbM _ | apply LnP_put | apply LnP_num | apply LnP_if | apply LnP_wbB | apply LnP_wbC))).1 (bb + 4) (by omega) (by omega)]; exact (hck k hkn).1) ?_
            refine lv_icmp_ge (tgt := 91) hx hb dX7_writeBeams_76 (by decide) (fun c_76 => absurd c_76 (nI_ge (by omega) (by omega))) (fun c_76 => ?_)
            refine lv_aload_n hx hb dX7_writeBeams_79 rfl (lv_at hl 2 rfl) ?_
            refine lv_bipush (v := 33) hx hb dX7_writeBeams_80 (by decide) ?_
            refine cVve (As := [.int 33]) S G 274 (c_X7_put l (D := D) (ct := ct) (ek := ek) (ad := ad) (N0 := N0) (X := X) (F := F) (wbC (wbB σ bb k (wbM σ bb k)) t) 33 (by decide) (LnP_l (σ := σ) (by with_reducible repeat (first | assumption | exact LnP_0 | exact LnP_wp0 | exact LnP_wp1 | exact LnP_wp2 | exact LnP_wpM _ | exact LnP_wbM _ | apply LnP_put | apply LnP_num | apply LnP_if | apply LnP_wbB | apply LnP_wbC)))) ok_yX7_put ml_RX7_23 (by decide) oLN rfl hP hS hl.1 rfl (by decide) rfl rfl (Nat.le_of_ble_eq_true rfl) ⟨Nat.zero_le _, Nat.zero_le _⟩ dX7_writeBeams_82 (fun H locs hP hS => ?_)
            refine lv_iinc (v := nI (t + 1)) (lv' := [(3, .int (nI (t + 1))), (2, .int (nI k)), (0, .ref (ad 274)), (1, .ref (ad bb))]) hx hb dX7_writeBeams_85 hl (k := 0) rfl (nI_inc _) (by decide) rfl (fun ls hl => ?_)
            refine lv_goto (tgt := 69) hx hb dX7_writeBeams_88 (by decide) ?_
            exact ih (t + 1) (by omega)  _ _ _ (wP_e hP rfl) hS (by first | (refine lv_v (lv_sub (l' := [(3, .int (nI (t + 1))), (2, .int (nI k)), (0, .ref (ad 274)), (1, .ref (ad bb))]) hl [0, 1, 2, 3] rfl) ?_; simp [fo, c_12, c_76]; done) | exact lv_sub hl [0, 1, 2, 3] rfl)
        exact key_69 (tN (σ (bb + 4) k)) 0 (by omega)  _ _ _ (wP_e hP rfl) hS (lv_sub hl [0, 1, 2, 3] rfl)
      refine lv_if_le (tgt := 25) hx hb dX7_writeBeams_16 (by decide) (fun c_16 => ?_) (fun c_16 => ?_)
      · exact jn_16_1 _ _ _ (wP_e hP (by first | (simp only [c_12, c_16, ↓reduceIte, if_true, if_false]; done) | (simp [c_12, c_16]; done) | rfl)) hS (lv_sub hl [0, 1, 2] rfl)
      · refine lv_aload_n hx hb dX7_writeBeams_19 rfl (lv_at hl 1 rfl) ?_
        refine lv_bipush (v := 32) hx hb dX7_writeBeams_20 (by decide) ?_
        refine cVve (As := [.int 32]) S G 274 (c_X7_put l (D := D) (ct := ct) (ek := ek) (ad := ad) (N0 := N0) (X := X) (F := F) (wbM σ bb k) 32 (by decide) (LnP_l (σ := σ) (by with_reducible repeat (first | assumption | exact LnP_0 | exact LnP_wp0 | exact LnP_wp1 | exact LnP_wp2 | exact LnP_wpM _ | exact LnP_wbM _ | apply LnP_put | apply LnP_num | apply LnP_if | apply LnP_wbB | apply LnP_wbC)))) ok_yX7_put ml_RX7_23 (by decide) oLN rfl hP hS hl.1 rfl (by decide) rfl rfl (Nat.le_of_ble_eq_true rfl) ⟨Nat.zero_le _, Nat.zero_le _⟩ dX7_writeBeams_22 (fun H locs hP hS => ?_)
        exact jn_16_1 _ _ _ (wP_e hP (by first | (simp only [c_12, c_16, ↓reduceIte, if_true, if_false]; done) | (simp [c_12, c_16]; done) | rfl)) hS (lv_sub hl [0, 1, 2] rfl)
  exact key_7 mb 0 (by omega)  _ _ _ (wP_e hP rfl) hS (lv_sub hl [0, 1, 2] rfl)

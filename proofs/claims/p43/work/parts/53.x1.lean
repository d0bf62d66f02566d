/-! the class's own calls (laid by wip/p43/spec_x1.py) -/
theorem th_137_141 : thOK 137 141 "java/lang/IllegalArgumentException" ["java/lang/RuntimeException", "java/lang/Exception"] = true := by decide +kernel
theorem th_265_269 : thOK 265 269 "java/lang/IllegalStateException" ["java/lang/RuntimeException", "java/lang/Exception"] = true := by decide +kernel
theorem th_334_338 : thOK 334 338 "java/lang/IndexOutOfBoundsException" ["java/lang/RuntimeException", "java/lang/Exception"] = true := by decide +kernel
theorem ok_yX10_needPerson : COK RX10 yX10_needPerson cX10_needPerson 2 none 1 := ⟨im_yX10_needPerson, se_RX10_yX10_needPerson, in_RX10, co_yX10_needPerson, ⟨rfl, by decide +kernel, by decide +kernel, by decide +kernel⟩, by decide⟩
set_option maxHeartbeats 1000000 in
set_option maxRecDepth 100000 in
theorem c_X10_needPerson (l : Launch) {D : va_G} {ct : Nat → ClassId} {ek ad : Nat → Nat} {N0 : Nat} {X : va_W} {F : State → Prop} (σ : Mem) (x : Int32) (cs : Nat → Nat) (hF : ∀ U, F U → FX ek cs N0 U) (hY : ∀ U, F U → FY U) (hlt : l.stackTraces = false) : MXv l yX10_needPerson cX10_needPerson 2 6 1 D ct ek ad N0 X F [.ref (ad 0), .int x] σ (fun τ => τ = σ ∧ ¬ hB σ x = 0) (fun E τ => E = "java/lang/IndexOutOfBoundsException" ∧ τ = σ ∧ npT σ x = 1) := by
  refine ms0x (own := RX10) (by decide) rfl (Nat.le_of_ble_eq_true rfl) (fun p e s m args below meth c S hr hlocks hout G hP hS ls hl => ?_)
  have hx := S.1
  have hb := S.2.1
  replace hl : lv_has ls 2 [(0, .ref (ad 0)), (1, .int x)] := hl
  have FC := hF s G.2.2.2.2.2
  have FZ := hY s G.2.2.2.2.2
  refine lv_aload_n hx hb dX10_needPerson_0 rfl (lv_at hl 0 rfl) ?_
  refine gf S G hP 0 0 (by decide) oX rfl inX10 (by decide) fl_RX10_10 rfl rfl dX10_needPerson_1 ?_
  refine gfN S G hP 1 0 (isHl0 isH1) (oH isH1) rfl inX5 (by decide) nw_RX10_107 rfl rfl dX10_needPerson_4 ?_
  refine lv_iload_n hx hb dX10_needPerson_7 rfl (lv_at hl 1 rfl) ?_
  refine cVie (As := [.int x]) S G (1 + 1) (c_X8_holds l (D := D) (ct := ct) (ek := ek) (ad := ad) (N0 := N0) (X := X) (F := F) σ (1 + 1) (isPH isH1) x) ok_yX8_holds ml_RX10_386 (isPl0 (isPH isH1)) (oP (isPH isH1)) rfl hP hS hl.1 rfl (by decide) rfl rfl (Nat.le_of_ble_eq_true rfl) ⟨by decide, by decide⟩ dX10_needPerson_8 (fun H locs hP hS => ?_)
  refine lv_if_ne (tgt := 25) hx hb dX10_needPerson_11 (by decide) (fun c_11 => ?_) (fun c_11 => ?_)
  · exact eVx S hr hlocks hP hS ⟨by decide, by decide⟩ dX10_needPerson_25 ⟨rfl, c_11⟩
  · exact thSW (names := ["java/lang/RuntimeException", "java/lang/Exception"]) S G FC FZ hlt (List.mem_of_getElem? (i := 1) rfl) th_334_338 hP hS hl.1 hout hlocks rfl ⟨rfl, by decide⟩ (Nat.le_of_ble_eq_true rfl) ⟨by decide, by decide⟩ (⟨rfl, rfl, if_pos c_11⟩) dX10_needPerson_14 dX10_needPerson_17 dX10_needPerson_18 dX10_needPerson_21 dX10_needPerson_24

theorem ok_yX10_needBeam : COK RX10 yX10_needBeam cX10_needBeam 2 none 1 := ⟨im_yX10_needBeam, se_RX10_yX10_needBeam, in_RX10, co_yX10_needBeam, ⟨rfl, by decide +kernel, by decide +kernel, by decide +kernel⟩, by decide⟩
set_option maxHeartbeats 1000000 in
set_option maxRecDepth 100000 in
theorem c_X10_needBeam (l : Launch) {D : va_G} {ct : Nat → ClassId} {ek ad : Nat → Nat} {N0 : Nat} {X : va_W} {F : State → Prop} (σ : Mem) (x : Int32) (cs : Nat → Nat) (hF : ∀ U, F U → FX ek cs N0 U) (hY : ∀ U, F U → FY U) (hlt : l.stackTraces = false) : MXv l yX10_needBeam cX10_needBeam 2 6 1 D ct ek ad N0 X F [.ref (ad 0), .int x] σ (fun τ => τ = σ ∧ ¬ holdB x (σ (1 + 15) 4) = 0) (fun E τ => E = "java/lang/IndexOutOfBoundsException" ∧ τ = σ ∧ nbT σ x = 1) := by
  refine ms0x (own := RX10) (by decide) rfl (Nat.le_of_ble_eq_true rfl) (fun p e s m args below meth c S hr hlocks hout G hP hS ls hl => ?_)
  have hx := S.1
  have hb := S.2.1
  replace hl : lv_has ls 2 [(0, .ref (ad 0)), (1, .int x)] := hl
  have FC := hF s G.2.2.2.2.2
  have FZ := hY s G.2.2.2.2.2
  refine lv_aload_n hx hb dX10_needBeam_0 rfl (lv_at hl 0 rfl) ?_
  refine gf S G hP 0 0 (by decide) oX rfl inX10 (by decide) fl_RX10_10 rfl rfl dX10_needBeam_1 ?_
  refine gfN S G hP 1 1 (isHl0 isH1) (oH isH1) rfl inX5 (by decide) nw_RX10_151 rfl rfl dX10_needBeam_4 ?_
  refine lv_iload_n hx hb dX10_needBeam_7 rfl (lv_at hl 1 rfl) ?_
  refine cVie (As := [.int x]) S G (1 + 15) (c_X1_holds l (D := D) (ct := ct) (ek := ek) (ad := ad) (N0 := N0) (X := X) (F := F) σ (1 + 15) (isBH isH1) x) ok_yX1_holds ml_RX10_392 (isBl0 (isBH isH1)) (oB (isBH isH1)) rfl hP hS hl.1 rfl (by decide) rfl rfl (Nat.le_of_ble_eq_true rfl) ⟨by decide, by decide⟩ dX10_needBeam_8 (fun H locs hP hS => ?_)
  refine lv_if_ne (tgt := 25) hx hb dX10_needBeam_11 (by decide) (fun c_11 => ?_) (fun c_11 => ?_)
  · exact eVx S hr hlocks hP hS ⟨by decide, by decide⟩ dX10_needBeam_25 ⟨rfl, c_11⟩
  · exact thSW (names := ["java/lang/RuntimeException", "java/lang/Exception"]) S G FC FZ hlt (List.mem_of_getElem? (i := 3) rfl) th_334_338 hP hS hl.1 hout hlocks rfl ⟨rfl, by decide⟩ (Nat.le_of_ble_eq_true rfl) ⟨by decide, by decide⟩ (⟨rfl, rfl, if_pos c_11⟩) dX10_needBeam_14 dX10_needBeam_17 dX10_needBeam_18 dX10_needBeam_21 dX10_needBeam_24

theorem ok_yX10_needStrength : COK RX10 yX10_needStrength cX10_needStrength 2 none 1 := ⟨im_yX10_needStrength, se_RX10_yX10_needStrength, in_RX10, co_yX10_needStrength, ⟨rfl, by decide +kernel, by decide +kernel, by decide +kernel⟩, by decide⟩
set_option maxHeartbeats 1000000 in
set_option maxRecDepth 100000 in
theorem c_X10_needStrength (l : Launch) {D : va_G} {ct : Nat → ClassId} {ek ad : Nat → Nat} {N0 : Nat} {X : va_W} {F : State → Prop} (σ : Mem) (x : Int32) (cs : Nat → Nat) (hF : ∀ U, F U → FX ek cs N0 U) (hY : ∀ U, F U → FY U) (hlt : l.stackTraces = false) : MXv l yX10_needStrength cX10_needStrength 2 6 1 D ct ek ad N0 X F [.ref (ad 0), .int x] σ (fun τ => τ = σ ∧ ¬ rngB x 1 9 = 0) (fun E τ => E = "java/lang/IllegalArgumentException" ∧ τ = σ ∧ rngB x 1 9 = 0) := by
  refine ms0x (own := RX10) (by decide) rfl (Nat.le_of_ble_eq_true rfl) (fun p e s m args below meth c S hr hlocks hout G hP hS ls hl => ?_)
  have hx := S.1
  have hb := S.2.1
  replace hl : lv_has ls 2 [(0, .ref (ad 0)), (1, .int x)] := hl
  have FC := hF s G.2.2.2.2.2
  have FZ := hY s G.2.2.2.2.2
  refine lv_iload_n hx hb dX10_needStrength_0 rfl (lv_at hl 1 rfl) ?_
  refine cSie (As := [.int x]) S G (c_X8_isStrength l (D := D) (ct := ct) (ek := ek) (ad := ad) (N0 := N0) (X := X) (F := F) σ x) ok_yX8_isStrength ml_RX10_395 hP hS hl.1 rfl (by decide) rfl rfl (Nat.le_of_ble_eq_true rfl) ⟨by decide, by decide⟩ dX10_needStrength_1 (fun H locs hP hS => ?_)
  refine lv_if_ne (tgt := 18) hx hb dX10_needStrength_4 (by decide) (fun c_4 => ?_) (fun c_4 => ?_)
  · exact eVx S hr hlocks hP hS ⟨by decide, by decide⟩ dX10_needStrength_18 ⟨rfl, c_4⟩
  · exact thSW (names := ["java/lang/RuntimeException", "java/lang/Exception"]) S G FC FZ hlt (List.mem_of_getElem? (i := 6) rfl) th_137_141 hP hS hl.1 hout hlocks rfl ⟨rfl, by decide⟩ (Nat.le_of_ble_eq_true rfl) ⟨by decide, by decide⟩ (⟨rfl, rfl, c_4⟩) dX10_needStrength_7 dX10_needStrength_10 dX10_needStrength_11 dX10_needStrength_14 dX10_needStrength_17

theorem ok_yX10_personOf : COK RX10 yX10_personOf cX10_personOf 4 (some .int) 2 := ⟨im_yX10_personOf, se_RX10_yX10_personOf, in_RX10, co_yX10_personOf, ⟨rfl, by decide +kernel, by decide +kernel, by decide +kernel⟩, by decide⟩
set_option maxHeartbeats 1000000 in
set_option maxRecDepth 100000 in
theorem c_X10_personOf (l : Launch) {D : va_G} {ct : Nat → ClassId} {ek ad : Nat → Nat} {N0 : Nat} {X : va_W} {F : State → Prop} (σ : Mem) (x : Int32) (y : Int32) (n : Nat) (mb : Nat) (hO : HOK σ 1 n mb) (cs : Nat → Nat) (hF : ∀ U, F U → FX ek cs N0 U) (hY : ∀ U, F U → FY U) (hlt : l.stackTraces = false) : MXi l yX10_personOf cX10_personOf 4 (some .int) 7 2 D ct ek ad N0 X F [.ref (ad 0), .int x, .int y] σ (fun r τ => τ = σ ∧ pofXT σ x y = 0 ∧ r = pofX σ n x y) (PXd ["java/lang/IndexOutOfBoundsException", "java/lang/IllegalArgumentException"] (pofXT σ x y) (fun τ => τ = σ)) := by
  refine ms0x (own := RX10) (by decide) rfl (Nat.le_of_ble_eq_true rfl) (fun p e s m args below meth c S hr hlocks hout G hP hS ls hl => ?_)
  have hx := S.1
  have hb := S.2.1
  replace hl : lv_has ls 4 [(0, .ref (ad 0)), (1, .int x), (2, .int y)] := hl
  have FC := hF s G.2.2.2.2.2
  have FZ := hY s G.2.2.2.2.2
  have hn := hO.1
  have hn6 := hO.2.1
  have hB0 := hO.2.2.1
  have hm := hB0.1
  have hm6 := hB0.2.1
  refine lv_aload_n hx hb dX10_personOf_0 rfl (lv_at hl 0 rfl) ?_
  refine lv_iload_n hx hb dX10_personOf_1 rfl (lv_at hl 1 rfl) ?_
  refine cXv (As := [.int x]) S G 0 (c_X10_needPerson l (D := D) (ct := ct) (ek := ek) (ad := ad) (N0 := N0) (X := X) (F := F) σ x cs (by first | assumption | omega | (simp [sg_at]; assumption) | (simp [sg_at]; done)) (by first | assumption | omega | (simp [sg_at]; assumption) | (simp [sg_at]; done)) (by first | assumption | omega | (simp [sg_at]; assumption) | (simp [sg_at]; done))) ok_yX10_needPerson ml_RX10_103 (by decide) oX rfl hP hS hl.1 rfl (by decide) rfl rfl (Nat.le_of_ble_eq_true rfl) ⟨by decide, by decide⟩ hout hlocks dX10_personOf_2 (fun E τ h => PXu (P := fun τ => τ = σ) h (fun z => by unfold pofXT; rw [if_pos (np_1 z)]) (fun w => w)) (fun τ_2 H locs hp_r_1 hP hS => ?_)
  obtain ⟨e9, hB9⟩ := hp_r_1
  rw [e9] at hP
  obtain ⟨h1, h1l⟩ := holdN hB9 hn (by omega)
  refine lv_aload_n hx hb dX10_personOf_5 rfl (lv_at hl 0 rfl) ?_
  refine gf S G hP 0 0 (by decide) oX rfl inX10 (by decide) fl_RX10_10 rfl rfl dX10_personOf_6 ?_
  refine gfN S G hP 1 0 (isHl0 isH1) (oH isH1) rfl inX5 (by decide) nw_RX10_107 rfl rfl dX10_personOf_9 ?_
  refine lv_astore_n (lv' := [(3, .ref (ad (1 + 1))), (0, .ref (ad 0)), (1, .int x), (2, .int y)]) hx hb dX10_personOf_12 rfl hl (by decide) rfl (fun ls hl => ?_)
  refine lv_iload_n hx hb dX10_personOf_13 rfl (lv_at hl 3 rfl) ?_
  by_cases c_14_0 : y = 0
  · refine lv_tableIn (off := 46) (tgt := 60) hx hb dX10_personOf_14 (by rw [c_14_0]; decide) (by rw [c_14_0]; decide) (by rw [c_14_0]; rfl) (by decide) ?_
    refine lv_aload_n hx hb dX10_personOf_60 rfl (lv_at hl 0 rfl) ?_
    refine gfN S G hP (1 + 1) 0 (isPl0 (isPH isH1)) (oP (isPH isH1)) rfl inX8 (by decide) nw_RX10_110 rfl rfl dX10_personOf_61 ?_
    refine lv_iload_n hx hb dX10_personOf_64 rfl (lv_at hl 2 rfl) ?_
    refine lv_tope (y := nI (tN (x))) h1 ?_
    refine ald S G hP ((1 + 1) + 1) (tN (x)) (isPl (isPH isH1) (by decide)) ((aP1 (isPH isH1)) _) rfl (by omega) (by decide) dX10_personOf_65 ?_
    exact eIx S hr hlocks hP hS ⟨by decide, by decide⟩ dX10_personOf_66 (by refine ⟨rfl, ?_, ?_⟩ <;> simp [pofX, pofXT, hB9, c_14_0])
  by_cases c_14_1 : y = 1
  · refine lv_tableIn (off := 53) (tgt := 67) hx hb dX10_personOf_14 (by rw [c_14_1]; decide) (by rw [c_14_1]; decide) (by rw [c_14_1]; rfl) (by decide) ?_
    refine lv_aload_n hx hb dX10_personOf_67 rfl (lv_at hl 0 rfl) ?_
    refine gfN S G hP (1 + 1) 1 (isPl0 (isPH isH1)) (oP (isPH isH1)) rfl inX8 (by decide) nw_RX10_114 rfl rfl dX10_personOf_68 ?_
    refine lv_iload_n hx hb dX10_personOf_71 rfl (lv_at hl 2 rfl) ?_
    refine lv_tope (y := nI (tN (x))) h1 ?_
    refine ald S G hP ((1 + 1) + 2) (tN (x)) (isPl (isPH isH1) (by decide)) ((aP2 (isPH isH1)) _) rfl (by omega) (by decide) dX10_personOf_72 ?_
    exact eIx S hr hlocks hP hS ⟨by decide, by decide⟩ dX10_personOf_73 (by refine ⟨rfl, ?_, ?_⟩ <;> simp [pofX, pofXT, hB9, c_14_1])
  by_cases c_14_2 : y = 2
  · refine lv_tableIn (off := 60) (tgt := 74) hx hb dX10_personOf_14 (by rw [c_14_2]; decide) (by rw [c_14_2]; decide) (by rw [c_14_2]; rfl) (by decide) ?_
    refine lv_aload_n hx hb dX10_personOf_74 rfl (lv_at hl 0 rfl) ?_
    refine gfN S G hP (1 + 1) 2 (isPl0 (isPH isH1)) (oP (isPH isH1)) rfl inX8 (by decide) nw_RX10_117 rfl rfl dX10_personOf_75 ?_
    refine lv_iload_n hx hb dX10_personOf_78 rfl (lv_at hl 2 rfl) ?_
    refine lv_tope (y := nI (tN (x))) h1 ?_
    refine zld S G hP ((1 + 1) + 3) (tN (x)) (isPl (isPH isH1) (by decide)) ((aP3 (isPH isH1)) _) rfl (by omega) (by decide) dX10_personOf_79 ?_
    refine lv_if_eq (tgt := 87) hx hb dX10_personOf_80 (by decide) (fun c_80 => ?_) (fun c_80 => ?_)
    · refine lv_iconst (v := 0) hx hb dX10_personOf_87 (by decide) ?_
      exact eIx S hr hlocks hP hS ⟨by decide, by decide⟩ dX10_personOf_88 (by refine ⟨rfl, ?_, ?_⟩ <;> simp [pofX, pofXT, hB9, c_14_2, c_80])
    · refine lv_iconst (v := 1) hx hb dX10_personOf_83 (by decide) ?_
      refine lv_goto (tgt := 88) hx hb dX10_personOf_84 (by decide) ?_
      exact eIx S hr hlocks hP hS ⟨by decide, by decide⟩ dX10_personOf_88 (by refine ⟨rfl, ?_, ?_⟩ <;> simp [pofX, pofXT, hB9, c_14_2, c_80])
  by_cases c_14_3 : y = 3
  · refine lv_tableIn (off := 75) (tgt := 89) hx hb dX10_personOf_14 (by rw [c_14_3]; decide) (by rw [c_14_3]; decide) (by rw [c_14_3]; rfl) (by decide) ?_
    refine lv_aload_n hx hb dX10_personOf_89 rfl (lv_at hl 0 rfl) ?_
    refine lv_iload_n hx hb dX10_personOf_90 rfl (lv_at hl 2 rfl) ?_
    refine lv_tope (y := nI (tN (x))) h1 ?_
    refine cVie (As := [.int (nI (tN (x)))]) S G (1 + 1) (c_X8_stepOf l (D := D) (ct := ct) (ek := ek) (ad := ad) (N0 := N0) (X := X) (F := F) σ (1 + 1) (isPH isH1) (tN (x)) (by omega)) ok_yX8_stepOf ml_RX10_121 (isPl0 (isPH isH1)) (oP (isPH isH1)) rfl hP hS hl.1 rfl (by decide) rfl rfl (Nat.le_of_ble_eq_true rfl) ⟨by decide, by decide⟩ dX10_personOf_91 (fun H locs hP hS => ?_)
    exact eIx S hr hlocks hP hS ⟨by decide, by decide⟩ dX10_personOf_94 (by refine ⟨rfl, ?_, ?_⟩ <;> simp [pofX, pofXT, hB9, c_14_3])
  by_cases c_14_4 : y = 4
  · refine lv_tableIn (off := 81) (tgt := 95) hx hb dX10_personOf_14 (by rw [c_14_4]; decide) (by rw [c_14_4]; decide) (by rw [c_14_4]; rfl) (by decide) ?_
    refine lv_aload_n hx hb dX10_personOf_95 rfl (lv_at hl 0 rfl) ?_
    refine lv_iload_n hx hb dX10_personOf_96 rfl (lv_at hl 2 rfl) ?_
    refine lv_tope (y := nI (tN (x))) h1 ?_
    refine cVie (As := [.int (nI (tN (x)))]) S G (1 + 1) (c_X8_friendCount l (D := D) (ct := ct) (ek := ek) (ad := ad) (N0 := N0) (X := X) (F := F) σ (1 + 1) (isPH isH1) (tN (x)) (by omega) n (by first | assumption | omega | (simp [sg_at]; assumption) | (simp [sg_at]; done)) (by omega)) ok_yX8_friendCount ml_RX10_125 (isPl0 (isPH isH1)) (oP (isPH isH1)) rfl hP hS hl.1 rfl (by decide) rfl rfl (Nat.le_of_ble_eq_true rfl) ⟨by decide, by decide⟩ dX10_personOf_97 (fun H locs hP hS => ?_)
    exact eIx S hr hlocks hP hS ⟨by decide, by decide⟩ dX10_personOf_100 (by refine ⟨rfl, ?_, ?_⟩ <;> simp [pofX, pofXT, hB9, c_14_4])
  by_cases c_14_5 : y = 5
  · refine lv_tableIn (off := 87) (tgt := 101) hx hb dX10_personOf_14 (by rw [c_14_5]; decide) (by rw [c_14_5]; decide) (by rw [c_14_5]; rfl) (by decide) ?_
    refine lv_aload_n hx hb dX10_personOf_101 rfl (lv_at hl 0 rfl) ?_
    refine lv_iload_n hx hb dX10_personOf_102 rfl (lv_at hl 2 rfl) ?_
    refine lv_tope (y := nI (tN (x))) h1 ?_
    refine cVie (As := [.int (nI (tN (x)))]) S G (1 + 1) (c_X8_weightsTogether l (D := D) (ct := ct) (ek := ek) (ad := ad) (N0 := N0) (X := X) (F := F) σ (1 + 1) (isPH isH1) (tN (x)) (by omega) n (by first | assumption | omega | (simp [sg_at]; assumption) | (simp [sg_at]; done)) (by omega)) ok_yX8_weightsTogether ml_RX10_128 (isPl0 (isPH isH1)) (oP (isPH isH1)) rfl hP hS hl.1 rfl (by decide) rfl rfl (Nat.le_of_ble_eq_true rfl) ⟨by decide, by decide⟩ dX10_personOf_103 (fun H locs hP hS => ?_)
    exact eIx S hr hlocks hP hS ⟨by decide, by decide⟩ dX10_personOf_106 (by refine ⟨rfl, ?_, ?_⟩ <;> simp [pofX, pofXT, hB9, c_14_5])
  by_cases c_14_6 : y = 6
  · refine lv_tableIn (off := 93) (tgt := 107) hx hb dX10_personOf_14 (by rw [c_14_6]; decide) (by rw [c_14_6]; decide) (by rw [c_14_6]; rfl) (by decide) ?_
    refine lv_aload_n hx hb dX10_personOf_107 rfl (lv_at hl 0 rfl) ?_
    refine gfN S G hP (1 + 1) 3 (isPl0 (isPH isH1)) (oP (isPH isH1)) rfl inX8 (by decide) nw_RX10_131 rfl rfl dX10_personOf_108 ?_
    refine lv_iload_n hx hb dX10_personOf_111 rfl (lv_at hl 2 rfl) ?_
    refine lv_tope (y := nI (tN (x))) h1 ?_
    refine ald S G hP ((1 + 1) + 4) (tN (x)) (isPl (isPH isH1) (by decide)) ((aP4 (isPH isH1)) _) rfl (by omega) (by decide) dX10_personOf_112 ?_
    exact eIx S hr hlocks hP hS ⟨by decide, by decide⟩ dX10_personOf_113 (by refine ⟨rfl, ?_, ?_⟩ <;> simp [pofX, pofXT, hB9, c_14_6])
  by_cases c_14_7 : y = 7
  · refine lv_tableIn (off := 100) (tgt := 114) hx hb dX10_personOf_14 (by rw [c_14_7]; decide) (by rw [c_14_7]; decide) (by rw [c_14_7]; rfl) (by decide) ?_
    refine lv_aload_n hx hb dX10_personOf_114 rfl (lv_at hl 0 rfl) ?_
    refine gfN S G hP (1 + 1) 4 (isPl0 (isPH isH1)) (oP (isPH isH1)) rfl inX8 (by decide) nw_RX10_134 rfl rfl dX10_personOf_115 ?_
    refine lv_iload_n hx hb dX10_personOf_118 rfl (lv_at hl 2 rfl) ?_
    refine lv_tope (y := nI (tN (x))) h1 ?_
    refine ald S G hP ((1 + 1) + 5) (tN (x)) (isPl (isPH isH1) (by decide)) ((aP5 (isPH isH1)) _) rfl (by omega) (by decide) dX10_personOf_119 ?_
    exact eIx S hr hlocks hP hS ⟨by decide, by decide⟩ dX10_personOf_120 (by refine ⟨rfl, ?_, ?_⟩ <;> simp [pofX, pofXT, hB9, c_14_7])
  refine lv_tableOut (tgt := 121) hx hb dX10_personOf_14 (swout (0) (7) (fun n h1 h2 he => by
    rcases (show n = 0 ∨ n = 1 ∨ n = 2 ∨ n = 3 ∨ n = 4 ∨ n = 5 ∨ n = 6 ∨ n = 7 by omega) with rfl | rfl | rfl | rfl | rfl | rfl | rfl | rfl
    · exact c_14_0 (Int32.toInt_inj.mp he)
    · exact c_14_1 (Int32.toInt_inj.mp he)
    · exact c_14_2 (Int32.toInt_inj.mp he)
    · exact c_14_3 (Int32.toInt_inj.mp he)
    · exact c_14_4 (Int32.toInt_inj.mp he)
    · exact c_14_5 (Int32.toInt_inj.mp he)
    · exact c_14_6 (Int32.toInt_inj.mp he)
    · exact c_14_7 (Int32.toInt_inj.mp he))) (by decide) ?_
  exact thS (names := ["java/lang/RuntimeException", "java/lang/Exception"]) S G FC FZ hlt (List.mem_of_getElem? (i := 2) rfl) th_137_141 hP hS hl.1 hout hlocks rfl ⟨rfl, by decide⟩ (Nat.le_of_ble_eq_true rfl) ⟨by decide, by decide⟩ (PX2 rfl (by unfold pofXT; simp only [hB9, c_14_0, c_14_1, c_14_2, c_14_3, c_14_4, c_14_5, c_14_6, c_14_7, ↓reduceIte])) dX10_personOf_121 dX10_personOf_124 dX10_personOf_125 dX10_personOf_127 dX10_personOf_130

theorem ok_yX10_weight : COK RX10 yX10_weight cX10_weight 3 (some .int) 2 := ⟨im_yX10_weight, se_RX10_yX10_weight, in_RX10, co_yX10_weight, ⟨rfl, by decide +kernel, by decide +kernel, by decide +kernel⟩, by decide⟩
set_option maxHeartbeats 1000000 in
set_option maxRecDepth 100000 in
theorem c_X10_weight (l : Launch) {D : va_G} {ct : Nat → ClassId} {ek ad : Nat → Nat} {N0 : Nat} {X : va_W} {F : State → Prop} (σ : Mem) (x : Int32) (y : Int32) (n : Nat) (mb : Nat) (hO : HOK σ 1 n mb) (cs : Nat → Nat) (hF : ∀ U, F U → FX ek cs N0 U) (hY : ∀ U, F U → FY U) (hlt : l.stackTraces = false) : MXi l yX10_weight cX10_weight 3 (some .int) 7 2 D ct ek ad N0 X F [.ref (ad 0), .int x, .int y] σ (fun r τ => τ = σ ∧ wgtXT σ x y = 0 ∧ r = σ (1 + 1 + 7 + tN x) (tN y)) (PXd ["java/lang/IndexOutOfBoundsException"] (wgtXT σ x y) (fun τ => τ = σ)) := by
  refine ms0x (own := RX10) (by decide) rfl (Nat.le_of_ble_eq_true rfl) (fun p e s m args below meth c S hr hlocks hout G hP hS ls hl => ?_)
  have hx := S.1
  have hb := S.2.1
  replace hl : lv_has ls 3 [(0, .ref (ad 0)), (1, .int x), (2, .int y)] := hl
  have FC := hF s G.2.2.2.2.2
  have FZ := hY s G.2.2.2.2.2
  have hn := hO.1
  have hn6 := hO.2.1
  have hB0 := hO.2.2.1
  have hm := hB0.1
  have hm6 := hB0.2.1
  refine lv_aload_n hx hb dX10_weight_0 rfl (lv_at hl 0 rfl) ?_
  refine lv_iload_n hx hb dX10_weight_1 rfl (lv_at hl 1 rfl) ?_
  refine cXv (As := [.int x]) S G 0 (c_X10_needPerson l (D := D) (ct := ct) (ek := ek) (ad := ad) (N0 := N0) (X := X) (F := F) σ x cs (by first | assumption | omega | (simp [sg_at]; assumption) | (simp [sg_at]; done)) (by first | assumption | omega | (simp [sg_at]; assumption) | (simp [sg_at]; done)) (by first | assumption | omega | (simp [sg_at]; assumption) | (simp [sg_at]; done))) ok_yX10_needPerson ml_RX10_103 (by decide) oX rfl hP hS hl.1 rfl (by decide) rfl rfl (Nat.le_of_ble_eq_true rfl) ⟨by decide, by decide⟩ hout hlocks dX10_weight_2 (fun E τ h => PXu (P := fun τ => τ = σ) h (fun z => by unfold wgtXT; rw [if_pos (np_1 z)]) (fun w => w)) (fun τ_2 H locs hp_r_1 hP hS => ?_)
  obtain ⟨e9, hB9⟩ := hp_r_1
  rw [e9] at hP
  refine lv_aload_n hx hb dX10_weight_5 rfl (lv_at hl 0 rfl) ?_
  refine lv_iload_n hx hb dX10_weight_6 rfl (lv_at hl 2 rfl) ?_
  refine cXv (As := [.int y]) S G 0 (c_X10_needPerson l (D := D) (ct := ct) (ek := ek) (ad := ad) (N0 := N0) (X := X) (F := F) σ y cs (by first | assumption | omega | (simp [sg_at]; assumption) | (simp [sg_at]; done)) (by first | assumption | omega | (simp [sg_at]; assumption) | (simp [sg_at]; done)) (by first | assumption | omega | (simp [sg_at]; assumption) | (simp [sg_at]; done))) ok_yX10_needPerson ml_RX10_103 (by decide) oX rfl hP hS hl.1 rfl (by decide) rfl rfl (Nat.le_of_ble_eq_true rfl) ⟨by decide, by decide⟩ hout hlocks dX10_weight_7 (fun E τ h => PXu (P := fun τ => τ = σ) h (fun z => by unfold wgtXT; rw [if_neg hB9, if_pos (np_1 z)]) (fun w => w)) (fun τ_4 H locs hp_r_3 hP hS => ?_)
  obtain ⟨e9, hB8⟩ := hp_r_3
  rw [e9] at hP
  obtain ⟨h1, h1l⟩ := holdN hB9 hn (by omega)
  obtain ⟨h2, h2l⟩ := holdN hB8 hn (by omega)
  refine lv_aload_n hx hb dX10_weight_10 rfl (lv_at hl 0 rfl) ?_
  refine gf S G hP 0 0 (by decide) oX rfl inX10 (by decide) fl_RX10_10 rfl rfl dX10_weight_11 ?_
  refine gfN S G hP 1 0 (isHl0 isH1) (oH isH1) rfl inX5 (by decide) nw_RX10_107 rfl rfl dX10_weight_14 ?_
  refine gfN S G hP (1 + 1) 5 (isPl0 (isPH isH1)) (oP (isPH isH1)) rfl inX8 (by decide) nw_RX10_144 rfl rfl dX10_weight_17 ?_
  refine lv_iload_n hx hb dX10_weight_20 rfl (lv_at hl 1 rfl) ?_
  refine lv_tope (y := nI (tN (x))) h1 ?_
  refine gld S G hP ((1 + 1) + 6) (tN (x)) (isPl (isPH isH1) (by decide)) ((gP6 (isPH isH1)) _) rfl (by omega) (by decide) (if_pos (by omega)) dX10_weight_21 ?_
  refine lv_iload_n hx hb dX10_weight_22 rfl (lv_at hl 2 rfl) ?_
  refine lv_tope (y := nI (tN (y))) h2 ?_
  refine ald S G hP ((1 + 1) + 7 + (tN (x))) (tN (y)) (isPlw (isPH isH1) (by omega)) ((aPw (isPH isH1) (by omega)) _) rfl (by omega) (by decide) dX10_weight_23 ?_
  exact eIx S hr hlocks hP hS ⟨by decide, by decide⟩ dX10_weight_24 ⟨rfl, (by unfold wgtXT; rw [if_neg hB9, if_neg hB8]), rfl⟩

theorem ok_yX10_beamOf : COK RX10 yX10_beamOf cX10_beamOf 4 (some .int) 2 := ⟨im_yX10_beamOf, se_RX10_yX10_beamOf, in_RX10, co_yX10_beamOf, ⟨rfl, by decide +kernel, by decide +kernel, by decide +kernel⟩, by decide⟩
set_option maxHeartbeats 1000000 in
set_option maxRecDepth 100000 in
theorem c_X10_beamOf (l : Launch) {D : va_G} {ct : Nat → ClassId} {ek ad : Nat → Nat} {N0 : Nat} {X : va_W} {F : State → Prop} (σ : Mem) (x : Int32) (y : Int32) (n : Nat) (mb : Nat) (hO : HOK σ 1 n mb) (cs : Nat → Nat) (hF : ∀ U, F U → FX ek cs N0 U) (hY : ∀ U, F U → FY U) (hlt : l.stackTraces = false) : MXi l yX10_beamOf cX10_beamOf 4 (some .int) 7 2 D ct ek ad N0 X F [.ref (ad 0), .int x, .int y] σ (fun r τ => τ = σ ∧ bofXT σ x y = 0 ∧ r = bofX σ x y) (PXd ["java/lang/IndexOutOfBoundsException", "java/lang/IllegalArgumentException"] (bofXT σ x y) (fun τ => τ = σ)) := by
  refine ms0x (own := RX10) (by decide) rfl (Nat.le_of_ble_eq_true rfl) (fun p e s m args below meth c S hr hlocks hout G hP hS ls hl => ?_)
  have hx := S.1
  have hb := S.2.1
  replace hl : lv_has ls 4 [(0, .ref (ad 0)), (1, .int x), (2, .int y)] := hl
  have FC := hF s G.2.2.2.2.2
  have FZ := hY s G.2.2.2.2.2
  have hn := hO.1
  have hn6 := hO.2.1
  have hB0 := hO.2.2.1
  have hm := hB0.1
  have hm6 := hB0.2.1
  refine lv_aload_n hx hb dX10_beamOf_0 rfl (lv_at hl 0 rfl) ?_
  refine lv_iload_n hx hb dX10_beamOf_1 rfl (lv_at hl 1 rfl) ?_
  refine cXv (As := [.int x]) S G 0 (c_X10_needBeam l (D := D) (ct := ct) (ek := ek) (ad := ad) (N0 := N0) (X := X) (F := F) σ x cs (by first | assumption | omega | (simp [sg_at]; assumption) | (simp [sg_at]; done)) (by first | assumption | omega | (simp [sg_at]; assumption) | (simp [sg_at]; done)) (by first | assumption | omega | (simp [sg_at]; assumption) | (simp [sg_at]; done))) ok_yX10_needBeam ml_RX10_148 (by decide) oX rfl hP hS hl.1 rfl (by decide) rfl rfl (Nat.le_of_ble_eq_true rfl) ⟨by decide, by decide⟩ hout hlocks dX10_beamOf_2 (fun E τ h => PXu (P := fun τ => τ = σ) h (fun z => by unfold bofXT; rw [if_pos (nb_1 z)]) (fun w => w)) (fun τ_2 H locs hp_r_1 hP hS => ?_)
  obtain ⟨e9, hB9⟩ := hp_r_1
  rw [e9] at hP
  obtain ⟨h1, h1l⟩ := holdN hB9 hm (by omega)
  refine lv_aload_n hx hb dX10_beamOf_5 rfl (lv_at hl 0 rfl) ?_
  refine gf S G hP 0 0 (by decide) oX rfl inX10 (by decide) fl_RX10_10 rfl rfl dX10_beamOf_6 ?_
  refine gfN S G hP 1 1 (isHl0 isH1) (oH isH1) rfl inX5 (by decide) nw_RX10_151 rfl rfl dX10_beamOf_9 ?_
  refine lv_astore_n (lv' := [(3, .ref (ad (1 + 15))), (0, .ref (ad 0)), (1, .int x), (2, .int y)]) hx hb dX10_beamOf_12 rfl hl (by decide) rfl (fun ls hl => ?_)
  refine lv_iload_n hx hb dX10_beamOf_13 rfl (lv_at hl 3 rfl) ?_
  by_cases c_14_0 : y = 0
  · refine lv_tableIn (off := 34) (tgt := 48) hx hb dX10_beamOf_14 (by rw [c_14_0]; decide) (by rw [c_14_0]; decide) (by rw [c_14_0]; rfl) (by decide) ?_
    refine lv_aload_n hx hb dX10_beamOf_48 rfl (lv_at hl 0 rfl) ?_
    refine gfN S G hP (1 + 15) 0 (isBl0 (isBH isH1)) (oB (isBH isH1)) rfl inX1 (by decide) nw_RX10_155 rfl rfl dX10_beamOf_49 ?_
    refine lv_iload_n hx hb dX10_beamOf_52 rfl (lv_at hl 2 rfl) ?_
    refine lv_tope (y := nI (tN (x))) h1 ?_
    refine ald S G hP ((1 + 15) + 1) (tN (x)) (isBl (isBH isH1) (by decide)) ((aB1 (isBH isH1)) _) rfl (by omega) (by decide) dX10_beamOf_53 ?_
    exact eIx S hr hlocks hP hS ⟨by decide, by decide⟩ dX10_beamOf_54 (by refine ⟨rfl, ?_, ?_⟩ <;> simp [bofX, bofXT, hB9, c_14_0])
  by_cases c_14_1 : y = 1
  · refine lv_tableIn (off := 41) (tgt := 55) hx hb dX10_beamOf_14 (by rw [c_14_1]; decide) (by rw [c_14_1]; decide) (by rw [c_14_1]; rfl) (by decide) ?_
    refine lv_aload_n hx hb dX10_beamOf_55 rfl (lv_at hl 0 rfl) ?_
    refine gfN S G hP (1 + 15) 1 (isBl0 (isBH isH1)) (oB (isBH isH1)) rfl inX1 (by decide) nw_RX10_160 rfl rfl dX10_beamOf_56 ?_
    refine lv_iload_n hx hb dX10_beamOf_59 rfl (lv_at hl 2 rfl) ?_
    refine lv_tope (y := nI (tN (x))) h1 ?_
    refine ald S G hP ((1 + 15) + 2) (tN (x)) (isBl (isBH isH1) (by decide)) ((aB2 (isBH isH1)) _) rfl (by omega) (by decide) dX10_beamOf_60 ?_
    exact eIx S hr hlocks hP hS ⟨by decide, by decide⟩ dX10_beamOf_61 (by refine ⟨rfl, ?_, ?_⟩ <;> simp [bofX, bofXT, hB9, c_14_1])
  by_cases c_14_2 : y = 2
  · refine lv_tableIn (off := 48) (tgt := 62) hx hb dX10_beamOf_14 (by rw [c_14_2]; decide) (by rw [c_14_2]; decide) (by rw [c_14_2]; rfl) (by decide) ?_
    refine lv_aload_n hx hb dX10_beamOf_62 rfl (lv_at hl 0 rfl) ?_
    refine gfN S G hP (1 + 15) 2 (isBl0 (isBH isH1)) (oB (isBH isH1)) rfl inX1 (by decide) nw_RX10_163 rfl rfl dX10_beamOf_63 ?_
    refine lv_iload_n hx hb dX10_beamOf_66 rfl (lv_at hl 2 rfl) ?_
    refine lv_tope (y := nI (tN (x))) h1 ?_
    refine ald S G hP ((1 + 15) + 3) (tN (x)) (isBl (isBH isH1) (by decide)) ((aB3 (isBH isH1)) _) rfl (by omega) (by decide) dX10_beamOf_67 ?_
    exact eIx S hr hlocks hP hS ⟨by decide, by decide⟩ dX10_beamOf_68 (by refine ⟨rfl, ?_, ?_⟩ <;> simp [bofX, bofXT, hB9, c_14_2])
  by_cases c_14_3 : y = 3
  · refine lv_tableIn (off := 55) (tgt := 69) hx hb dX10_beamOf_14 (by rw [c_14_3]; decide) (by rw [c_14_3]; decide) (by rw [c_14_3]; rfl) (by decide) ?_
    refine lv_aload_n hx hb dX10_beamOf_69 rfl (lv_at hl 0 rfl) ?_
    refine gfN S G hP (1 + 15) 3 (isBl0 (isBH isH1)) (oB (isBH isH1)) rfl inX1 (by decide) nw_RX10_166 rfl rfl dX10_beamOf_70 ?_
    refine lv_iload_n hx hb dX10_beamOf_73 rfl (lv_at hl 2 rfl) ?_
    refine lv_tope (y := nI (tN (x))) h1 ?_
    refine ald S G hP ((1 + 15) + 4) (tN (x)) (isBl (isBH isH1) (by decide)) ((aB4 (isBH isH1)) _) rfl (by omega) (by decide) dX10_beamOf_74 ?_
    exact eIx S hr hlocks hP hS ⟨by decide, by decide⟩ dX10_beamOf_75 (by refine ⟨rfl, ?_, ?_⟩ <;> simp [bofX, bofXT, hB9, c_14_3])
  by_cases c_14_4 : y = 4
  · refine lv_tableIn (off := 62) (tgt := 76) hx hb dX10_beamOf_14 (by rw [c_14_4]; decide) (by rw [c_14_4]; decide) (by rw [c_14_4]; rfl) (by decide) ?_
    refine lv_aload_n hx hb dX10_beamOf_76 rfl (lv_at hl 0 rfl) ?_
    refine lv_iload_n hx hb dX10_beamOf_77 rfl (lv_at hl 2 rfl) ?_
    refine lv_tope (y := nI (tN (x))) h1 ?_
    refine lv_aload_n hx hb dX10_beamOf_78 rfl (lv_at hl 1 rfl) ?_
    refine gf S G hP 0 0 (by decide) oX rfl inX10 (by decide) fl_RX10_10 rfl rfl dX10_beamOf_79 ?_
    refine gfN S G hP 1 0 (isHl0 isH1) (oH isH1) rfl inX5 (by decide) nw_RX10_107 rfl rfl dX10_beamOf_82 ?_
    refine cVie (As := [.int (nI (tN (x))), .ref (ad (1 + 1))]) S G (1 + 15) (c_X1_differenceAt l (D := D) (ct := ct) (ek := ek) (ad := ad) (N0 := N0) (X := X) (F := F) σ (1 + 15) (isBH isH1) (tN (x)) (1 + 1) (isPH isH1) mb hB0 (by omega)) ok_yX1_differenceAt ml_RX10_169 (isBl0 (isBH isH1)) (oB (isBH isH1)) rfl hP hS hl.1 rfl (by decide) rfl rfl (Nat.le_of_ble_eq_true rfl) ⟨by decide, by decide⟩ dX10_beamOf_85 (fun H locs hP hS => ?_)
    exact eIx S hr hlocks hP hS ⟨by decide, by decide⟩ dX10_beamOf_88 (by refine ⟨rfl, ?_, ?_⟩ <;> simp [bofX, bofXT, hB9, c_14_4])
  refine lv_tableOut (tgt := 89) hx hb dX10_beamOf_14 (swout (0) (4) (fun n h1 h2 he => by
    rcases (show n = 0 ∨ n = 1 ∨ n = 2 ∨ n = 3 ∨ n = 4 by omega) with rfl | rfl | rfl | rfl | rfl
    · exact c_14_0 (Int32.toInt_inj.mp he)
    · exact c_14_1 (Int32.toInt_inj.mp he)
    · exact c_14_2 (Int32.toInt_inj.mp he)
    · exact c_14_3 (Int32.toInt_inj.mp he)
    · exact c_14_4 (Int32.toInt_inj.mp he))) (by decide) ?_
  exact thS (names := ["java/lang/RuntimeException", "java/lang/Exception"]) S G FC FZ hlt (List.mem_of_getElem? (i := 4) rfl) th_137_141 hP hS hl.1 hout hlocks rfl ⟨rfl, by decide⟩ (Nat.le_of_ble_eq_true rfl) ⟨by decide, by decide⟩ (PX2 rfl (by unfold bofXT; simp only [hB9, c_14_0, c_14_1, c_14_2, c_14_3, c_14_4, ↓reduceIte])) dX10_beamOf_89 dX10_beamOf_92 dX10_beamOf_93 dX10_beamOf_95 dX10_beamOf_98

theorem ok_yX10_lean : COK RX10 yX10_lean cX10_lean 2 (some .int) 1 := ⟨im_yX10_lean, se_RX10_yX10_lean, in_RX10, co_yX10_lean, ⟨rfl, by decide +kernel, by decide +kernel, by decide +kernel⟩, by decide⟩
set_option maxHeartbeats 1000000 in
set_option maxRecDepth 100000 in
theorem c_X10_lean (l : Launch) {D : va_G} {ct : Nat → ClassId} {ek ad : Nat → Nat} {N0 : Nat} {X : va_W} {F : State → Prop} (σ : Mem) (x : Int32) (n : Nat) (mb : Nat) (hO : HOK σ 1 n mb) (cs : Nat → Nat) (hF : ∀ U, F U → FX ek cs N0 U) (hY : ∀ U, F U → FY U) (hlt : l.stackTraces = false) : MXi l yX10_lean cX10_lean 2 (some .int) 7 1 D ct ek ad N0 X F [.ref (ad 0), .int x] σ (fun r τ => τ = σ ∧ npT σ x = 0 ∧ r = sgnV (σ (1 + 1 + 1) (tN x)) 0) (PXd ["java/lang/IndexOutOfBoundsException"] (npT σ x) (fun τ => τ = σ)) := by
  refine ms0x (own := RX10) (by decide) rfl (Nat.le_of_ble_eq_true rfl) (fun p e s m args below meth c S hr hlocks hout G hP hS ls hl => ?_)
  have hx := S.1
  have hb := S.2.1
  replace hl : lv_has ls 2 [(0, .ref (ad 0)), (1, .int x)] := hl
  have FC := hF s G.2.2.2.2.2
  have FZ := hY s G.2.2.2.2.2
  have hn := hO.1
  have hn6 := hO.2.1
  have hB0 := hO.2.2.1
  have hm := hB0.1
  have hm6 := hB0.2.1
  refine lv_aload_n hx hb dX10_lean_0 rfl (lv_at hl 0 rfl) ?_
  refine lv_iload_n hx hb dX10_lean_1 rfl (lv_at hl 1 rfl) ?_
  refine cXv (As := [.int x]) S G 0 (c_X10_needPerson l (D := D) (ct := ct) (ek := ek) (ad := ad) (N0 := N0) (X := X) (F := F) σ x cs (by first | assumption | omega | (simp [sg_at]; assumption) | (simp [sg_at]; done)) (by first | assumption | omega | (simp [sg_at]; assumption) | (simp [sg_at]; done)) (by first | assumption | omega | (simp [sg_at]; assumption) | (simp [sg_at]; done))) ok_yX10_needPerson ml_RX10_103 (by decide) oX rfl hP hS hl.1 rfl (by decide) rfl rfl (Nat.le_of_ble_eq_true rfl) ⟨by decide, by decide⟩ hout hlocks dX10_lean_2 (fun E τ h => PXu (P := fun τ => τ = σ) h (fun z => z) (fun w => w)) (fun τ_2 H locs hp_r_1 hP hS => ?_)
  obtain ⟨e9, hB9⟩ := hp_r_1
  rw [e9] at hP
  obtain ⟨h1, h1l⟩ := holdN hB9 hn (by omega)
  refine lv_aload_n hx hb dX10_lean_5 rfl (lv_at hl 0 rfl) ?_
  refine gf S G hP 0 0 (by decide) oX rfl inX10 (by decide) fl_RX10_10 rfl rfl dX10_lean_6 ?_
  refine gfN S G hP 1 0 (isHl0 isH1) (oH isH1) rfl inX5 (by decide) nw_RX10_107 rfl rfl dX10_lean_9 ?_
  refine lv_iload_n hx hb dX10_lean_12 rfl (lv_at hl 1 rfl) ?_
  refine lv_tope (y := nI (tN (x))) h1 ?_
  refine cVie (As := [.int (nI (tN (x)))]) S G (1 + 1) (c_X8_sideOf l (D := D) (ct := ct) (ek := ek) (ad := ad) (N0 := N0) (X := X) (F := F) σ (1 + 1) (isPH isH1) (tN (x)) (by omega)) ok_yX8_sideOf ml_RX10_175 (isPl0 (isPH isH1)) (oP (isPH isH1)) rfl hP hS hl.1 rfl (by decide) rfl rfl (Nat.le_of_ble_eq_true rfl) ⟨by decide, by decide⟩ dX10_lean_13 (fun H locs hP hS => ?_)
  exact eIx S hr hlocks hP hS ⟨by decide, by decide⟩ dX10_lean_16 ⟨rfl, np_0 hB9, rfl⟩

theorem ok_yX10_mean : COK RX10 yX10_mean cX10_mean 2 (some .int) 1 := ⟨im_yX10_mean, se_RX10_yX10_mean, in_RX10, co_yX10_mean, ⟨rfl, by decide +kernel, by decide +kernel, by decide +kernel⟩, by decide⟩
set_option maxHeartbeats 1000000 in
set_option maxRecDepth 100000 in
theorem c_X10_mean (l : Launch) {D : va_G} {ct : Nat → ClassId} {ek ad : Nat → Nat} {N0 : Nat} {X : va_W} {F : State → Prop} (σ : Mem) (x : Int32) (n : Nat) (mb : Nat) (hO : HOK σ 1 n mb) (cs : Nat → Nat) (hF : ∀ U, F U → FX ek cs N0 U) (hY : ∀ U, F U → FY U) (hlt : l.stackTraces = false) : MXi l yX10_mean cX10_mean 2 (some .int) 7 1 D ct ek ad N0 X F [.ref (ad 0), .int x] σ (fun r τ => τ = σ ∧ npT σ x = 0 ∧ r = meanV σ (1 + 1) n (tN x)) (PXd ["java/lang/IndexOutOfBoundsException"] (npT σ x) (fun τ => τ = σ)) := by
  refine ms0x (own := RX10) (by decide) rfl (Nat.le_of_ble_eq_true rfl) (fun p e s m args below meth c S hr hlocks hout G hP hS ls hl => ?_)
  have hx := S.1
  have hb := S.2.1
  replace hl : lv_has ls 2 [(0, .ref (ad 0)), (1, .int x)] := hl
  have FC := hF s G.2.2.2.2.2
  have FZ := hY s G.2.2.2.2.2
  have hn := hO.1
  have hn6 := hO.2.1
  have hB0 := hO.2.2.1
  have hm := hB0.1
  have hm6 := hB0.2.1
  refine lv_aload_n hx hb dX10_mean_0 rfl (lv_at hl 0 rfl) ?_
  refine lv_iload_n hx hb dX10_mean_1 rfl (lv_at hl 1 rfl) ?_
  refine cXv (As := [.int x]) S G 0 (c_X10_needPerson l (D := D) (ct := ct) (ek := ek) (ad := ad) (N0 := N0) (X := X) (F := F) σ x cs (by first | assumption | omega | (simp [sg_at]; assumption) | (simp [sg_at]; done)) (by first | assumption | omega | (simp [sg_at]; assumption) | (simp [sg_at]; done)) (by first | assumption | omega | (simp [sg_at]; assumption) | (simp [sg_at]; done))) ok_yX10_needPerson ml_RX10_103 (by decide) oX rfl hP hS hl.1 rfl (by decide) rfl rfl (Nat.le_of_ble_eq_true rfl) ⟨by decide, by decide⟩ hout hlocks dX10_mean_2 (fun E τ h => PXu (P := fun τ => τ = σ) h (fun z => z) (fun w => w)) (fun τ_2 H locs hp_r_1 hP hS => ?_)
  obtain ⟨e9, hB9⟩ := hp_r_1
  rw [e9] at hP
  obtain ⟨h1, h1l⟩ := holdN hB9 hn (by omega)
  refine lv_aload_n hx hb dX10_mean_5 rfl (lv_at hl 0 rfl) ?_
  refine gf S G hP 0 0 (by decide) oX rfl inX10 (by decide) fl_RX10_10 rfl rfl dX10_mean_6 ?_
  refine gfN S G hP 1 0 (isHl0 isH1) (oH isH1) rfl inX5 (by decide) nw_RX10_107 rfl rfl dX10_mean_9 ?_
  refine lv_iload_n hx hb dX10_mean_12 rfl (lv_at hl 1 rfl) ?_
  refine lv_tope (y := nI (tN (x))) h1 ?_
  refine cVie (As := [.int (nI (tN (x)))]) S G (1 + 1) (c_X8_meanByFriends l (D := D) (ct := ct) (ek := ek) (ad := ad) (N0 := N0) (X := X) (F := F) σ (1 + 1) (isPH isH1) (tN (x)) (by omega) n (by first | assumption | omega | (simp [sg_at]; assumption) | (simp [sg_at]; done)) (by omega)) ok_yX8_meanByFriends ml_RX10_178 (isPl0 (isPH isH1)) (oP (isPH isH1)) rfl hP hS hl.1 rfl (by decide) rfl rfl (Nat.le_of_ble_eq_true rfl) ⟨by decide, by decide⟩ dX10_mean_13 (fun H locs hP hS => ?_)
  exact eIx S hr hlocks hP hS ⟨by decide, by decide⟩ dX10_mean_16 ⟨rfl, np_0 hB9, rfl⟩

theorem ok_yX10_meanAgain : COK RX10 yX10_meanAgain cX10_meanAgain 2 (some .int) 1 := ⟨im_yX10_meanAgain, se_RX10_yX10_meanAgain, in_RX10, co_yX10_meanAgain, ⟨rfl, by decide +kernel, by decide +kernel, by decide +kernel⟩, by decide⟩
set_option maxHeartbeats 1000000 in
set_option maxRecDepth 100000 in
theorem c_X10_meanAgain (l : Launch) {D : va_G} {ct : Nat → ClassId} {ek ad : Nat → Nat} {N0 : Nat} {X : va_W} {F : State → Prop} (σ : Mem) (x : Int32) (n : Nat) (mb : Nat) (hO : HOK σ 1 n mb) (u : Nat → Nat) (hu : ¬ hB σ x = 0 → ∀ q, q < n → (if q = tN x then σ (1 + 1 + 2) (tN x) + 1 else σ (1 + 1 + 7 + tN x) q) = nI (u q)) (hu9 : ¬ hB σ x = 0 → ∀ q, q < n → u q ≤ 10) (cs : Nat → Nat) (hF : ∀ U, F U → FX ek cs N0 U) (hY : ∀ U, F U → FY U) (hlt : l.stackTraces = false) : MXi l yX10_meanAgain cX10_meanAgain 2 (some .int) 7 1 D ct ek ad N0 X F [.ref (ad 0), .int x] σ (fun r τ => τ = σ ∧ npT σ x = 0 ∧ r = mAddV (σ (1 + 1 + 1)) u n) (PXd ["java/lang/IndexOutOfBoundsException"] (npT σ x) (fun τ => τ = σ)) := by
  refine ms0x (own := RX10) (by decide) rfl (Nat.le_of_ble_eq_true rfl) (fun p e s m args below meth c S hr hlocks hout G hP hS ls hl => ?_)
  have hx := S.1
  have hb := S.2.1
  replace hl : lv_has ls 2 [(0, .ref (ad 0)), (1, .int x)] := hl
  have FC := hF s G.2.2.2.2.2
  have FZ := hY s G.2.2.2.2.2
  have hn := hO.1
  have hn6 := hO.2.1
  have hB0 := hO.2.2.1
  have hm := hB0.1
  have hm6 := hB0.2.1
  refine lv_aload_n hx hb dX10_meanAgain_0 rfl (lv_at hl 0 rfl) ?_
  refine lv_iload_n hx hb dX10_meanAgain_1 rfl (lv_at hl 1 rfl) ?_
  refine cXv (As := [.int x]) S G 0 (c_X10_needPerson l (D := D) (ct := ct) (ek := ek) (ad := ad) (N0 := N0) (X := X) (F := F) σ x cs (by first | assumption | omega | (simp [sg_at]; assumption) | (simp [sg_at]; done)) (by first | assumption | omega | (simp [sg_at]; assumption) | (simp [sg_at]; done)) (by first | assumption | omega | (simp [sg_at]; assumption) | (simp [sg_at]; done))) ok_yX10_needPerson ml_RX10_103 (by decide) oX rfl hP hS hl.1 rfl (by decide) rfl rfl (Nat.le_of_ble_eq_true rfl) ⟨by decide, by decide⟩ hout hlocks dX10_meanAgain_2 (fun E τ h => PXu (P := fun τ => τ = σ) h (fun z => z) (fun w => w)) (fun τ_2 H locs hp_r_1 hP hS => ?_)
  obtain ⟨e9, hB9⟩ := hp_r_1
  rw [e9] at hP
  obtain ⟨h1, h1l⟩ := holdN hB9 hn (by omega)
  refine lv_aload_n hx hb dX10_meanAgain_5 rfl (lv_at hl 0 rfl) ?_
  refine gf S G hP 0 0 (by decide) oX rfl inX10 (by decide) fl_RX10_10 rfl rfl dX10_meanAgain_6 ?_
  refine gfN S G hP 1 0 (isHl0 isH1) (oH isH1) rfl inX5 (by decide) nw_RX10_107 rfl rfl dX10_meanAgain_9 ?_
  refine lv_iload_n hx hb dX10_meanAgain_12 rfl (lv_at hl 1 rfl) ?_
  refine lv_tope (y := nI (tN (x))) h1 ?_
  refine cVie (As := [.int (nI (tN (x)))]) S G (1 + 1) (c_X8_meanByAdding l (D := D) (ct := ct) (ek := ek) (ad := ad) (N0 := N0) (X := X) (F := F) σ (1 + 1) (isPH isH1) (tN (x)) (by omega) n (by first | assumption | omega | (simp [sg_at]; assumption) | (simp [sg_at]; done)) (by omega) u (hu hB9) (hu9 hB9)) ok_yX8_meanByAdding ml_RX10_181 (isPl0 (isPH isH1)) (oP (isPH isH1)) rfl hP hS hl.1 rfl (by decide) rfl rfl (Nat.le_of_ble_eq_true rfl) ⟨by decide, by decide⟩ dX10_meanAgain_13 (fun H locs hP hS => ?_)
  exact eIx S hr hlocks hP hS ⟨by decide, by decide⟩ dX10_meanAgain_16 ⟨rfl, np_0 hB9, rfl⟩

theorem ok_yX10_wouldMove : COK RX10 yX10_wouldMove cX10_wouldMove 2 (some .int) 1 := ⟨im_yX10_wouldMove, se_RX10_yX10_wouldMove, in_RX10, co_yX10_wouldMove, ⟨rfl, by decide +kernel, by decide +kernel, by decide +kernel⟩, by decide⟩
set_option maxHeartbeats 1000000 in
set_option maxRecDepth 100000 in
theorem c_X10_wouldMove (l : Launch) {D : va_G} {ct : Nat → ClassId} {ek ad : Nat → Nat} {N0 : Nat} {X : va_W} {F : State → Prop} (σ : Mem) (x : Int32) (n : Nat) (mb : Nat) (hO : HOK σ 1 n mb) (cs : Nat → Nat) (hF : ∀ U, F U → FX ek cs N0 U) (hY : ∀ U, F U → FY U) (hlt : l.stackTraces = false) : MXi l yX10_wouldMove cX10_wouldMove 2 (some .int) 7 1 D ct ek ad N0 X F [.ref (ad 0), .int x] σ (fun r τ => τ = σ ∧ npT σ x = 0 ∧ r = moveV σ (1 + 1) n (tN x)) (PXd ["java/lang/IndexOutOfBoundsException"] (npT σ x) (fun τ => τ = σ)) := by
  refine ms0x (own := RX10) (by decide) rfl (Nat.le_of_ble_eq_true rfl) (fun p e s m args below meth c S hr hlocks hout G hP hS ls hl => ?_)
  have hx := S.1
  have hb := S.2.1
  replace hl : lv_has ls 2 [(0, .ref (ad 0)), (1, .int x)] := hl
  have FC := hF s G.2.2.2.2.2
  have FZ := hY s G.2.2.2.2.2
  have hn := hO.1
  have hn6 := hO.2.1
  have hB0 := hO.2.2.1
  have hm := hB0.1
  have hm6 := hB0.2.1
  refine lv_aload_n hx hb dX10_wouldMove_0 rfl (lv_at hl 0 rfl) ?_
  refine lv_iload_n hx hb dX10_wouldMove_1 rfl (lv_at hl 1 rfl) ?_
  refine cXv (As := [.int x]) S G 0 (c_X10_needPerson l (D := D) (ct := ct) (ek := ek) (ad := ad) (N0 := N0) (X := X) (F := F) σ x cs (by first | assumption | omega | (simp [sg_at]; assumption) | (simp [sg_at]; done)) (by first | assumption | omega | (simp [sg_at]; assumption) | (simp [sg_at]; done)) (by first | assumption | omega | (simp [sg_at]; assumption) | (simp [sg_at]; done))) ok_yX10_needPerson ml_RX10_103 (by decide) oX rfl hP hS hl.1 rfl (by decide) rfl rfl (Nat.le_of_ble_eq_true rfl) ⟨by decide, by decide⟩ hout hlocks dX10_wouldMove_2 (fun E τ h => PXu (P := fun τ => τ = σ) h (fun z => z) (fun w => w)) (fun τ_2 H locs hp_r_1 hP hS => ?_)
  obtain ⟨e9, hB9⟩ := hp_r_1
  rw [e9] at hP
  obtain ⟨h1, h1l⟩ := holdN hB9 hn (by omega)
  refine lv_aload_n hx hb dX10_wouldMove_5 rfl (lv_at hl 0 rfl) ?_
  refine gf S G hP 0 0 (by decide) oX rfl inX10 (by decide) fl_RX10_10 rfl rfl dX10_wouldMove_6 ?_
  refine gfN S G hP 1 0 (isHl0 isH1) (oH isH1) rfl inX5 (by decide) nw_RX10_107 rfl rfl dX10_wouldMove_9 ?_
  refine lv_iload_n hx hb dX10_wouldMove_12 rfl (lv_at hl 1 rfl) ?_
  refine lv_tope (y := nI (tN (x))) h1 ?_
  refine cVie (As := [.int (nI (tN (x)))]) S G (1 + 1) (c_X8_moveOf l (D := D) (ct := ct) (ek := ek) (ad := ad) (N0 := N0) (X := X) (F := F) σ (1 + 1) (isPH isH1) (tN (x)) (by omega) n (by first | assumption | omega | (simp [sg_at]; assumption) | (simp [sg_at]; done)) (by omega)) ok_yX8_moveOf ml_RX10_184 (isPl0 (isPH isH1)) (oP (isPH isH1)) rfl hP hS hl.1 rfl (by decide) rfl rfl (Nat.le_of_ble_eq_true rfl) ⟨by decide, by decide⟩ dX10_wouldMove_13 (fun H locs hP hS => ?_)
  exact eIx S hr hlocks hP hS ⟨by decide, by decide⟩ dX10_wouldMove_16 ⟨rfl, np_0 hB9, rfl⟩

theorem ok_yX10_puller : COK RX10 yX10_puller cX10_puller 3 (some .int) 1 := ⟨im_yX10_puller, se_RX10_yX10_puller, in_RX10, co_yX10_puller, ⟨rfl, by decide +kernel, by decide +kernel, by decide +kernel⟩, by decide⟩
set_option maxHeartbeats 1000000 in
set_option maxRecDepth 100000 in
theorem c_X10_puller (l : Launch) {D : va_G} {ct : Nat → ClassId} {ek ad : Nat → Nat} {N0 : Nat} {X : va_W} {F : State → Prop} (σ : Mem) (x : Int32) (n : Nat) (mb : Nat) (hO : HOK σ 1 n mb) (cs : Nat → Nat) (hF : ∀ U, F U → FX ek cs N0 U) (hY : ∀ U, F U → FY U) (hlt : l.stackTraces = false) : MXi l yX10_puller cX10_puller 3 (some .int) 7 2 D ct ek ad N0 X F [.ref (ad 0), .int x] σ (fun r τ => τ = σ ∧ pulXT σ n x = 0 ∧ r = pulXS σ n x) (PXd ["java/lang/IndexOutOfBoundsException", "java/util/NoSuchElementException"] (pulXT σ n x) (fun τ => τ = σ)) := by
  refine ms0x (own := RX10) (by decide) rfl (Nat.le_of_ble_eq_true rfl) (fun p e s m args below meth c S hr hlocks hout G hP hS ls hl => ?_)
  have hx := S.1
  have hb := S.2.1
  replace hl : lv_has ls 3 [(0, .ref (ad 0)), (1, .int x)] := hl
  have FC := hF s G.2.2.2.2.2
  have FZ := hY s G.2.2.2.2.2
  have hn := hO.1
  have hn6 := hO.2.1
  have hB0 := hO.2.2.1
  have hm := hB0.1
  have hm6 := hB0.2.1
  refine lv_aload_n hx hb dX10_puller_0 rfl (lv_at hl 0 rfl) ?_
  refine lv_iload_n hx hb dX10_puller_1 rfl (lv_at hl 1 rfl) ?_
  refine cXv (As := [.int x]) S G 0 (c_X10_needPerson l (D := D) (ct := ct) (ek := ek) (ad := ad) (N0 := N0) (X := X) (F := F) σ x cs (by first | assumption | omega | (simp [sg_at]; assumption) | (simp [sg_at]; done)) (by first | assumption | omega | (simp [sg_at]; assumption) | (simp [sg_at]; done)) (by first | assumption | omega | (simp [sg_at]; assumption) | (simp [sg_at]; done))) ok_yX10_needPerson ml_RX10_103 (by decide) oX rfl hP hS hl.1 rfl (by decide) rfl rfl (Nat.le_of_ble_eq_true rfl) ⟨by decide, by decide⟩ hout hlocks dX10_puller_2 (fun E τ h => PXu (P := fun τ => τ = σ) h (fun z => by unfold pulXT; rw [if_pos (np_1 z)]) (fun w => w)) (fun τ_2 H locs hp_r_1 hP hS => ?_)
  obtain ⟨e9, hB9⟩ := hp_r_1
  rw [e9] at hP
  obtain ⟨h1, h1l⟩ := holdN hB9 hn (by omega)
  refine lv_aload_n hx hb dX10_puller_5 rfl (lv_at hl 0 rfl) ?_
  refine gf S G hP 0 0 (by decide) oX rfl inX10 (by decide) fl_RX10_10 rfl rfl dX10_puller_6 ?_
  refine gfN S G hP 1 0 (isHl0 isH1) (oH isH1) rfl inX5 (by decide) nw_RX10_107 rfl rfl dX10_puller_9 ?_
  refine lv_iload_n hx hb dX10_puller_12 rfl (lv_at hl 1 rfl) ?_
  refine lv_tope (y := nI (tN (x))) h1 ?_
  refine cVie (As := [.int (nI (tN (x)))]) S G (1 + 1) (c_X8_strongestPuller l (D := D) (ct := ct) (ek := ek) (ad := ad) (N0 := N0) (X := X) (F := F) σ (1 + 1) (isPH isH1) (tN (x)) (by omega) n (by first | assumption | omega | (simp [sg_at]; assumption) | (simp [sg_at]; done)) (by omega)) ok_yX8_strongestPuller ml_RX10_187 (isPl0 (isPH isH1)) (oP (isPH isH1)) rfl hP hS hl.1 rfl (by decide) rfl rfl (Nat.le_of_ble_eq_true rfl) ⟨by decide, by decide⟩ dX10_puller_13 (fun H locs hP hS => ?_)
  refine lv_tope (y := pulXS σ n x) rfl ?_
  refine lv_istore_n (lv' := [(2, .int (pulXS σ n x)), (0, .ref (ad 0)), (1, .int x)]) hx hb dX10_puller_16 rfl hl (by decide) rfl (fun ls hl => ?_)
  refine lv_iload_n hx hb dX10_puller_17 rfl (lv_at hl 0 rfl) ?_
  refine lv_if_ge (tgt := 31) hx hb dX10_puller_18 (by decide) (fun c_18 => ?_) (fun c_18 => ?_)
  · refine lv_iload_n hx hb dX10_puller_31 rfl (lv_at hl 0 rfl) ?_
    exact eIx S hr hlocks hP hS ⟨by decide, by decide⟩ dX10_puller_32 ⟨rfl, (by unfold pulXT; rw [if_neg hB9, if_pos c_18]), rfl⟩
  · exact tnS S G FC FZ hlt (List.mem_of_getElem? (i := 5) rfl) tn_190_194 hP hS hl.1 hout hlocks rfl (by decide) (Nat.le_of_ble_eq_true rfl) ⟨by decide, by decide⟩ (PX2 rfl (by unfold pulXT; rw [if_neg hB9, if_neg c_18])) dX10_puller_21 dX10_puller_24 dX10_puller_25 dX10_puller_27 dX10_puller_30

theorem ok_yX10_force : COK RX10 yX10_force cX10_force 3 (some .int) 2 := ⟨im_yX10_force, se_RX10_yX10_force, in_RX10, co_yX10_force, ⟨rfl, by decide +kernel, by decide +kernel, by decide +kernel⟩, by decide⟩
set_option maxHeartbeats 1000000 in
set_option maxRecDepth 100000 in
theorem c_X10_force (l : Launch) {D : va_G} {ct : Nat → ClassId} {ek ad : Nat → Nat} {N0 : Nat} {X : va_W} {F : State → Prop} (σ : Mem) (x : Int32) (y : Int32) (n : Nat) (mb : Nat) (hO : HOK σ 1 n mb) (cs : Nat → Nat) (hF : ∀ U, F U → FX ek cs N0 U) (hY : ∀ U, F U → FY U) (hlt : l.stackTraces = false) : MXi l yX10_force cX10_force 3 (some .int) 7 2 D ct ek ad N0 X F [.ref (ad 0), .int x, .int y] σ (fun r τ => τ = σ ∧ fceXT σ x y = 0 ∧ r = facXF σ x y) (PXd ["java/lang/IndexOutOfBoundsException", "java/lang/IllegalArgumentException"] (fceXT σ x y) (fun τ => τ = σ)) := by
  refine ms0x (own := RX10) (by decide) rfl (Nat.le_of_ble_eq_true rfl) (fun p e s m args below meth c S hr hlocks hout G hP hS ls hl => ?_)
  have hx := S.1
  have hb := S.2.1
  replace hl : lv_has ls 3 [(0, .ref (ad 0)), (1, .int x), (2, .int y)] := hl
  have FC := hF s G.2.2.2.2.2
  have FZ := hY s G.2.2.2.2.2
  have hn := hO.1
  have hn6 := hO.2.1
  have hB0 := hO.2.2.1
  have hm := hB0.1
  have hm6 := hB0.2.1
  refine lv_aload_n hx hb dX10_force_0 rfl (lv_at hl 0 rfl) ?_
  refine lv_iload_n hx hb dX10_force_1 rfl (lv_at hl 1 rfl) ?_
  refine cXv (As := [.int x]) S G 0 (c_X10_needPerson l (D := D) (ct := ct) (ek := ek) (ad := ad) (N0 := N0) (X := X) (F := F) σ x cs (by first | assumption | omega | (simp [sg_at]; assumption) | (simp [sg_at]; done)) (by first | assumption | omega | (simp [sg_at]; assumption) | (simp [sg_at]; done)) (by first | assumption | omega | (simp [sg_at]; assumption) | (simp [sg_at]; done))) ok_yX10_needPerson ml_RX10_103 (by decide) oX rfl hP hS hl.1 rfl (by decide) rfl rfl (Nat.le_of_ble_eq_true rfl) ⟨by decide, by decide⟩ hout hlocks dX10_force_2 (fun E τ h => PXu (P := fun τ => τ = σ) h (fun z => by unfold fceXT; rw [if_pos (np_1 z)]) (fun w => w)) (fun τ_2 H locs hp_r_1 hP hS => ?_)
  obtain ⟨e9, hB9⟩ := hp_r_1
  rw [e9] at hP
  refine lv_aload_n hx hb dX10_force_5 rfl (lv_at hl 0 rfl) ?_
  refine lv_iload_n hx hb dX10_force_6 rfl (lv_at hl 2 rfl) ?_
  refine cXv (As := [.int y]) S G 0 (c_X10_needStrength l (D := D) (ct := ct) (ek := ek) (ad := ad) (N0 := N0) (X := X) (F := F) σ y cs (by first | assumption | omega | (simp [sg_at]; assumption) | (simp [sg_at]; done)) (by first | assumption | omega | (simp [sg_at]; assumption) | (simp [sg_at]; done)) (by first | assumption | omega | (simp [sg_at]; assumption) | (simp [sg_at]; done))) ok_yX10_needStrength ml_RX10_195 (by decide) oX rfl hP hS hl.1 rfl (by decide) rfl rfl (Nat.le_of_ble_eq_true rfl) ⟨by decide, by decide⟩ hout hlocks dX10_force_7 (fun E τ h => PXv (P := fun τ => τ = σ) h (by unfold fceXT; rw [if_neg hB9, if_pos h.2.2])) (fun τ_4 H locs hp_r_3 hP hS => ?_)
  obtain ⟨e9, hB8⟩ := hp_r_3
  rw [e9] at hP
  obtain ⟨h1, h1l⟩ := holdN hB9 hn (by omega)
  refine lv_aload_n hx hb dX10_force_10 rfl (lv_at hl 0 rfl) ?_
  refine gf S G hP 0 0 (by decide) oX rfl inX10 (by decide) fl_RX10_10 rfl rfl dX10_force_11 ?_
  refine gfN S G hP 1 0 (isHl0 isH1) (oH isH1) rfl inX5 (by decide) nw_RX10_107 rfl rfl dX10_force_14 ?_
  refine lv_iload_n hx hb dX10_force_17 rfl (lv_at hl 1 rfl) ?_
  refine lv_tope (y := nI (tN (x))) h1 ?_
  refine lv_iload_n hx hb dX10_force_18 rfl (lv_at hl 2 rfl) ?_
  refine cVie (As := [.int (nI (tN (x))), .int y]) S G (1 + 1) (c_X8_forceOn l (D := D) (ct := ct) (ek := ek) (ad := ad) (N0 := N0) (X := X) (F := F) σ (1 + 1) (isPH isH1) (tN (x)) (by omega) y) ok_yX8_forceOn ml_RX10_198 (isPl0 (isPH isH1)) (oP (isPH isH1)) rfl hP hS hl.1 rfl (by decide) rfl rfl (Nat.le_of_ble_eq_true rfl) ⟨by decide, by decide⟩ dX10_force_19 (fun H locs hP hS => ?_)
  exact eIx S hr hlocks hP hS ⟨by decide, by decide⟩ dX10_force_22 ⟨rfl, (by unfold fceXT; rw [if_neg hB9, if_neg hB8]), rfl⟩

theorem ok_yX10_factsFor : COK RX10 yX10_factsFor cX10_factsFor 5 (some .int) 2 := ⟨im_yX10_factsFor, se_RX10_yX10_factsFor, in_RX10, co_yX10_factsFor, ⟨rfl, by decide +kernel, by decide +kernel, by decide +kernel⟩, by decide⟩
set_option maxHeartbeats 1000000 in
set_option maxRecDepth 100000 in
theorem c_X10_factsFor (l : Launch) {D : va_G} {ct : Nat → ClassId} {ek ad : Nat → Nat} {N0 : Nat} {X : va_W} {F : State → Prop} (σ : Mem) (x : Int32) (y : Int32) (n : Nat) (mb : Nat) (hO : HOK σ 1 n mb) (cs : Nat → Nat) (hF : ∀ U, F U → FX ek cs N0 U) (hY : ∀ U, F U → FY U) (hlt : l.stackTraces = false) : MXi l yX10_factsFor cX10_factsFor 5 (some .int) 7 3 D ct ek ad N0 X F [.ref (ad 0), .int x, .int y] σ (fun r τ => τ = σ ∧ facXT σ x y = 0 ∧ r = facX σ x y) (PXd ["java/lang/IndexOutOfBoundsException", "java/lang/IllegalArgumentException", "java/util/NoSuchElementException"] (facXT σ x y) (fun τ => τ = σ)) := by
  refine ms0x (own := RX10) (by decide) rfl (Nat.le_of_ble_eq_true rfl) (fun p e s m args below meth c S hr hlocks hout G hP hS ls hl => ?_)
  have hx := S.1
  have hb := S.2.1
  replace hl : lv_has ls 5 [(0, .ref (ad 0)), (1, .int x), (2, .int y)] := hl
  have FC := hF s G.2.2.2.2.2
  have FZ := hY s G.2.2.2.2.2
  have hn := hO.1
  have hn6 := hO.2.1
  have hB0 := hO.2.2.1
  have hm := hB0.1
  have hm6 := hB0.2.1
  refine lv_aload_n hx hb dX10_factsFor_0 rfl (lv_at hl 0 rfl) ?_
  refine lv_iload_n hx hb dX10_factsFor_1 rfl (lv_at hl 1 rfl) ?_
  refine cXv (As := [.int x]) S G 0 (c_X10_needPerson l (D := D) (ct := ct) (ek := ek) (ad := ad) (N0 := N0) (X := X) (F := F) σ x cs (by first | assumption | omega | (simp [sg_at]; assumption) | (simp [sg_at]; done)) (by first | assumption | omega | (simp [sg_at]; assumption) | (simp [sg_at]; done)) (by first | assumption | omega | (simp [sg_at]; assumption) | (simp [sg_at]; done))) ok_yX10_needPerson ml_RX10_103 (by decide) oX rfl hP hS hl.1 rfl (by decide) rfl rfl (Nat.le_of_ble_eq_true rfl) ⟨by decide, by decide⟩ hout hlocks dX10_factsFor_2 (fun E τ h => PXu (P := fun τ => τ = σ) h (fun z => by unfold facXT; rw [if_pos (np_1 z)]) (fun w => w)) (fun τ_2 H locs hp_r_1 hP hS => ?_)
  obtain ⟨e9, hB9⟩ := hp_r_1
  rw [e9] at hP
  refine lv_aload_n hx hb dX10_factsFor_5 rfl (lv_at hl 0 rfl) ?_
  refine lv_iload_n hx hb dX10_factsFor_6 rfl (lv_at hl 2 rfl) ?_
  refine cXv (As := [.int y]) S G 0 (c_X10_needStrength l (D := D) (ct := ct) (ek := ek) (ad := ad) (N0 := N0) (X := X) (F := F) σ y cs (by first | assumption | omega | (simp [sg_at]; assumption) | (simp [sg_at]; done)) (by first | assumption | omega | (simp [sg_at]; assumption) | (simp [sg_at]; done)) (by first | assumption | omega | (simp [sg_at]; assumption) | (simp [sg_at]; done))) ok_yX10_needStrength ml_RX10_195 (by decide) oX rfl hP hS hl.1 rfl (by decide) rfl rfl (Nat.le_of_ble_eq_true rfl) ⟨by decide, by decide⟩ hout hlocks dX10_factsFor_7 (fun E τ h => PXv (P := fun τ => τ = σ) h (by unfold facXT; rw [if_neg hB9, if_pos h.2.2])) (fun τ_4 H locs hp_r_3 hP hS => ?_)
  obtain ⟨e9, hB8⟩ := hp_r_3
  rw [e9] at hP
  obtain ⟨h1, h1l⟩ := holdN hB9 hn (by omega)
  refine lv_aload_n hx hb dX10_factsFor_10 rfl (lv_at hl 0 rfl) ?_
  refine gf S G hP 0 0 (by decide) oX rfl inX10 (by decide) fl_RX10_10 rfl rfl dX10_factsFor_11 ?_
  refine gfN S G hP 1 0 (isHl0 isH1) (oH isH1) rfl inX5 (by decide) nw_RX10_107 rfl rfl dX10_factsFor_14 ?_
  refine gfN S G hP (1 + 1) 0 (isPl0 (isPH isH1)) (oP (isPH isH1)) rfl inX8 (by decide) nw_RX10_110 rfl rfl dX10_factsFor_17 ?_
  refine lv_iload_n hx hb dX10_factsFor_20 rfl (lv_at hl 1 rfl) ?_
  refine lv_tope (y := nI (tN (x))) h1 ?_
  refine ald S G hP ((1 + 1) + 1) (tN (x)) (isPl (isPH isH1) (by decide)) ((aP1 (isPH isH1)) _) rfl (by omega) (by decide) dX10_factsFor_21 ?_
  refine rabs S rfl (by decide) hl.1 ml_RX10_202 (Nat.le_of_ble_eq_true rfl) ⟨by decide, by decide⟩ dX10_factsFor_22 ?_
  refine lv_tope (y := facXA σ x) rfl ?_
  refine lv_istore_n (lv' := [(3, .int (facXA σ x)), (0, .ref (ad 0)), (1, .int x), (2, .int y)]) hx hb dX10_factsFor_25 rfl hl (by decide) rfl (fun ls hl => ?_)
  refine lv_iload_n hx hb dX10_factsFor_26 rfl (lv_at hl 0 rfl) ?_
  refine lv_if_ne (tgt := 32) hx hb dX10_factsFor_27 (by decide) (fun c_27 => ?_) (fun c_27 => ?_)
  · refine lv_aload_n hx hb dX10_factsFor_32 rfl (lv_at hl 1 rfl) ?_
    refine gf S G hP 0 0 (by decide) oX rfl inX10 (by decide) fl_RX10_10 rfl rfl dX10_factsFor_33 ?_
    refine gfN S G hP 1 0 (isHl0 isH1) (oH isH1) rfl inX5 (by decide) nw_RX10_107 rfl rfl dX10_factsFor_36 ?_
    refine lv_iload_n hx hb dX10_factsFor_39 rfl (lv_at hl 2 rfl) ?_
    refine lv_tope (y := nI (tN (x))) h1 ?_
    refine lv_iload_n hx hb dX10_factsFor_40 rfl (lv_at hl 3 rfl) ?_
    refine cVie (As := [.int (nI (tN (x))), .int y]) S G (1 + 1) (c_X8_forceOn l (D := D) (ct := ct) (ek := ek) (ad := ad) (N0 := N0) (X := X) (F := F) σ (1 + 1) (isPH isH1) (tN (x)) (by omega) y) ok_yX8_forceOn ml_RX10_198 (isPl0 (isPH isH1)) (oP (isPH isH1)) rfl hP hS hl.1 rfl (by decide) rfl rfl (Nat.le_of_ble_eq_true rfl) ⟨by decide, by decide⟩ dX10_factsFor_41 (fun H locs hP hS => ?_)
    refine lv_tope (y := facXF σ x y) rfl ?_
    refine lv_istore (lv' := [(4, .int (facXF σ x y)), (3, .int (facXA σ x)), (0, .ref (ad 0)), (1, .int x), (2, .int y)]) hx hb dX10_factsFor_44 hl (by decide) rfl (fun ls hl => ?_)
    refine lv_iload hx hb dX10_factsFor_46 (lv_at hl 0 rfl) ?_
    refine lv_iconst (v := 1) hx hb dX10_factsFor_48 (by decide) ?_
    refine lv_icmp_ge (tgt := 62) hx hb dX10_factsFor_49 (by decide) (fun c_49 => ?_) (fun c_49 => ?_)
    · refine lv_iload_n hx hb dX10_factsFor_62 rfl (lv_at hl 1 rfl) ?_
      refine lv_iload hx hb dX10_factsFor_63 (lv_at hl 0 rfl) ?_
      refine lv_iadd hx hb dX10_factsFor_65 ?_
      refine lv_iconst (v := 1) hx hb dX10_factsFor_66 (by decide) ?_
      refine lv_isub hx hb dX10_factsFor_67 ?_
      refine lv_iload hx hb dX10_factsFor_68 (lv_at hl 0 rfl) ?_
      refine lv_idiv hx hb dX10_factsFor_70 (by intro h9; rw [h9] at c_49; exact absurd c_49 (by decide)) ?_
      exact eIx S hr hlocks hP hS ⟨by decide, by decide⟩ dX10_factsFor_71 ⟨rfl, (by unfold facXT; rw [if_neg hB9, if_neg hB8, if_neg c_27, if_pos c_49]), (by unfold facX; rw [if_neg c_27])⟩
    · exact tnS S G FC FZ hlt (List.mem_of_getElem? (i := 7) rfl) tn_190_194 hP hS hl.1 hout hlocks rfl (by decide) (Nat.le_of_ble_eq_true rfl) ⟨by decide, by decide⟩ (PX3 rfl (by unfold facXT; rw [if_neg hB9, if_neg hB8, if_neg c_27, if_neg c_49])) dX10_factsFor_52 dX10_factsFor_55 dX10_factsFor_56 dX10_factsFor_58 dX10_factsFor_61
  · refine lv_iconst (v := 0) hx hb dX10_factsFor_30 (by decide) ?_
    exact eIx S hr hlocks hP hS ⟨by decide, by decide⟩ dX10_factsFor_31 ⟨rfl, (by unfold facXT; rw [if_neg hB9, if_neg hB8, if_pos c_27]), (by unfold facX; rw [if_pos c_27])⟩

theorem ok_yX10_camp : COK RX10 yX10_camp cX10_camp 2 (some .int) 1 := ⟨im_yX10_camp, se_RX10_yX10_camp, in_RX10, co_yX10_camp, ⟨rfl, by decide +kernel, by decide +kernel, by decide +kernel⟩, by decide⟩
set_option maxHeartbeats 1000000 in
set_option maxRecDepth 100000 in
theorem c_X10_camp (l : Launch) {D : va_G} {ct : Nat → ClassId} {ek ad : Nat → Nat} {N0 : Nat} {X : va_W} {F : State → Prop} (σ : Mem) (x : Int32) (n : Nat) (mb : Nat) (hO : HOK σ 1 n mb) (cs : Nat → Nat) (hF : ∀ U, F U → FX ek cs N0 U) (hY : ∀ U, F U → FY U) (hlt : l.stackTraces = false) : MXi l yX10_camp cX10_camp 2 (some .int) 7 1 D ct ek ad N0 X F [.ref (ad 0), .int x] σ (fun r τ => τ = σ ∧ npT σ x = 0 ∧ r = campV σ (1 + 1) n (tN x)) (PXd ["java/lang/IndexOutOfBoundsException"] (npT σ x) (fun τ => τ = σ)) := by
  refine ms0x (own := RX10) (by decide) rfl (Nat.le_of_ble_eq_true rfl) (fun p e s m args below meth c S hr hlocks hout G hP hS ls hl => ?_)
  have hx := S.1
  have hb := S.2.1
  replace hl : lv_has ls 2 [(0, .ref (ad 0)), (1, .int x)] := hl
  have FC := hF s G.2.2.2.2.2
  have FZ := hY s G.2.2.2.2.2
  have hn := hO.1
  have hn6 := hO.2.1
  have hB0 := hO.2.2.1
  have hm := hB0.1
  have hm6 := hB0.2.1
  refine lv_aload_n hx hb dX10_camp_0 rfl (lv_at hl 0 rfl) ?_
  refine lv_iload_n hx hb dX10_camp_1 rfl (lv_at hl 1 rfl) ?_
  refine cXv (As := [.int x]) S G 0 (c_X10_needPerson l (D := D) (ct := ct) (ek := ek) (ad := ad) (N0 := N0) (X := X) (F := F) σ x cs (by first | assumption | omega | (simp [sg_at]; assumption) | (simp [sg_at]; done)) (by first | assumption | omega | (simp [sg_at]; assumption) | (simp [sg_at]; done)) (by first | assumption | omega | (simp [sg_at]; assumption) | (simp [sg_at]; done))) ok_yX10_needPerson ml_RX10_103 (by decide) oX rfl hP hS hl.1 rfl (by decide) rfl rfl (Nat.le_of_ble_eq_true rfl) ⟨by decide, by decide⟩ hout hlocks dX10_camp_2 (fun E τ h => PXu (P := fun τ => τ = σ) h (fun z => z) (fun w => w)) (fun τ_2 H locs hp_r_1 hP hS => ?_)
  obtain ⟨e9, hB9⟩ := hp_r_1
  rw [e9] at hP
  obtain ⟨h1, h1l⟩ := holdN hB9 hn (by omega)
  refine lv_aload_n hx hb dX10_camp_5 rfl (lv_at hl 0 rfl) ?_
  refine gf S G hP 0 4 (by decide) oX rfl inX10 (by decide) fl_RX10_32 rfl rfl dX10_camp_6 ?_
  refine lv_iload_n hx hb dX10_camp_9 rfl (lv_at hl 1 rfl) ?_
  refine lv_tope (y := nI (tN (x))) h1 ?_
  refine lv_aload_n hx hb dX10_camp_10 rfl (lv_at hl 0 rfl) ?_
  refine gf S G hP 0 0 (by decide) oX rfl inX10 (by decide) fl_RX10_10 rfl rfl dX10_camp_11 ?_
  refine gfN S G hP 1 0 (isHl0 isH1) (oH isH1) rfl inX5 (by decide) nw_RX10_107 rfl rfl dX10_camp_14 ?_
  refine cVie (As := [.int (nI (tN (x))), .ref (ad (1 + 1))]) S G 75 (c_X2_campOf l (D := D) (ct := ct) (ek := ek) (ad := ad) (N0 := N0) (X := X) (F := F) σ (1 + 1) (isPH isH1) (tN (x)) n (by first | assumption | omega | (simp [sg_at]; assumption) | (simp [sg_at]; done)) (by omega) (by omega)) ok_yX2_campOf ml_RX10_231 (by decide) oCA rfl hP hS hl.1 rfl (by decide) rfl rfl (Nat.le_of_ble_eq_true rfl) ⟨by decide, by decide⟩ dX10_camp_17 (fun H locs hP hS => ?_)
  exact eIx S hr hlocks hP hS ⟨by decide, by decide⟩ dX10_camp_20 ⟨rfl, np_0 hB9, rfl⟩

theorem ok_yX10_camps : COK RX10 yX10_camps cX10_camps 1 (some .int) 0 := ⟨im_yX10_camps, se_RX10_yX10_camps, in_RX10, co_yX10_camps, ⟨rfl, by decide +kernel, by decide +kernel, by decide +kernel⟩, by decide⟩
set_option maxHeartbeats 1000000 in
set_option maxRecDepth 100000 in
theorem c_X10_camps (l : Launch) {D : va_G} {ct : Nat → ClassId} {ek ad : Nat → Nat} {N0 : Nat} {X : va_W} {F : State → Prop} (σ : Mem) (n : Nat) (mb : Nat) (hO : HOK σ 1 n mb) : MI l yX10_camps cX10_camps 1 (some .int) 6 D ct ek ad N0 X F [.ref (ad 0)] σ (fun r τ => r = lowV σ (1 + 1) n n ∧ τ = σ) := by
  refine ms0 (own := RX10) (by decide) rfl (Nat.le_of_ble_eq_true rfl) (fun p e s m args below meth c S hr hlocks hnm G hP hS ls hl => ?_)
  have hx := S.1
  have hb := S.2.1
  replace hl : lv_has ls 1 [(0, .ref (ad 0))] := hl
  have hn := hO.1
  have hn6 := hO.2.1
  have hB0 := hO.2.2.1
  have hm := hB0.1
  have hm6 := hB0.2.1
  refine lv_aload_n hx hb dX10_camps_0 rfl (lv_at hl 0 rfl) ?_
  refine gf S G hP 0 4 (by decide) oX rfl inX10 (by decide) fl_RX10_32 rfl rfl dX10_camps_1 ?_
  refine lv_aload_n hx hb dX10_camps_4 rfl (lv_at hl 0 rfl) ?_
  refine gf S G hP 0 0 (by decide) oX rfl inX10 (by decide) fl_RX10_10 rfl rfl dX10_camps_5 ?_
  refine gfN S G hP 1 0 (isHl0 isH1) (oH isH1) rfl inX5 (by decide) nw_RX10_107 rfl rfl dX10_camps_8 ?_
  refine cVie (As := [.ref (ad (1 + 1))]) S G 75 (c_X2_countByLowest l (D := D) (ct := ct) (ek := ek) (ad := ad) (N0 := N0) (X := X) (F := F) σ (1 + 1) (isPH isH1) n (by first | assumption | omega | (simp [sg_at]; assumption) | (simp [sg_at]; done)) (by omega)) ok_yX2_countByLowest ml_RX10_234 (by decide) oCA rfl hP hS hl.1 rfl (by decide) rfl rfl (Nat.le_of_ble_eq_true rfl) ⟨Nat.zero_le _, Nat.zero_le _⟩ dX10_camps_11 (fun H locs hP hS => ?_)
  exact eI S hr hlocks hP hS dX10_camps_14 (by first | exact ⟨rfl, rfl⟩ | (refine ⟨?_, rfl⟩; simp []; done) | (simp []; done) | (simp only [↓reduceIte, if_true, if_false, and_self, true_and]; done) | grind [])

theorem ok_yX10_greatest : COK RX10 yX10_greatest cX10_greatest 3 (some .int) 1 := ⟨im_yX10_greatest, se_RX10_yX10_greatest, in_RX10, co_yX10_greatest, ⟨rfl, by decide +kernel, by decide +kernel, by decide +kernel⟩, by decide⟩
set_option maxHeartbeats 1000000 in
set_option maxRecDepth 100000 in
theorem c_X10_greatest (l : Launch) {D : va_G} {ct : Nat → ClassId} {ek ad : Nat → Nat} {N0 : Nat} {X : va_W} {F : State → Prop} (σ : Mem) (z : Int32) (n : Nat) (mb : Nat) (hO : HOK σ 1 n mb) (cs : Nat → Nat) (hF : ∀ U, F U → FX ek cs N0 U) (hY : ∀ U, F U → FY U) (hlt : l.stackTraces = false) : MXi l yX10_greatest cX10_greatest 3 (some .int) 6 1 D ct ek ad N0 X F [.ref (ad 0), .int z] σ (fun r τ => τ = σ ∧ greXT σ n z = 0 ∧ r = greXS σ n z) (PXd ["java/util/NoSuchElementException"] (greXT σ n z) (fun τ => τ = σ)) := by
  refine ms0x (own := RX10) (by decide) rfl (Nat.le_of_ble_eq_true rfl) (fun p e s m args below meth c S hr hlocks hout G hP hS ls hl => ?_)
  have hx := S.1
  have hb := S.2.1
  replace hl : lv_has ls 3 [(0, .ref (ad 0)), (1, .int z)] := hl
  have FC := hF s G.2.2.2.2.2
  have FZ := hY s G.2.2.2.2.2
  have hn := hO.1
  have hn6 := hO.2.1
  have hB0 := hO.2.2.1
  have hm := hB0.1
  have hm6 := hB0.2.1
  refine lv_aload_n hx hb dX10_greatest_0 rfl (lv_at hl 0 rfl) ?_
  refine gf S G hP 0 0 (by decide) oX rfl inX10 (by decide) fl_RX10_10 rfl rfl dX10_greatest_1 ?_
  refine gfN S G hP 1 0 (isHl0 isH1) (oH isH1) rfl inX5 (by decide) nw_RX10_107 rfl rfl dX10_greatest_4 ?_
  refine lv_iload_n hx hb dX10_greatest_7 rfl (lv_at hl 1 rfl) ?_
  have jn_8_1 : ∀ (H : Heap) (locs : List Loc) (ls : Array Slot), wP D ct ek ad X σ H → va_S (fr N0) s.heap H locs → lv_has ls 3 [(0, .ref (ad 0)), (1, .int z)] → W p l e (rmd 6 1 (6 * 1)) s m args below meth c H locs 0 0 (vx_MQ below (wQi D ct ek ad N0 X (fun r τ => τ = σ ∧ greXT σ n z = 0 ∧ r = greXS σ n z)) (XCm D ct ek ad N0 X (PXd ["java/util/NoSuchElementException"] (greXT σ n z) (fun τ => τ = σ))) args s 1 (6 * 1) (fr N0)) (F0 m 16 ls [.int (if z = 0 then 1 else -1), .ref (ad (1 + 1))]) := by
    intro H locs ls hP hS hl
    refine cVie (As := [.int (if z = 0 then 1 else -1)]) S G (1 + 1) (c_X8_farthestTo l (D := D) (ct := ct) (ek := ek) (ad := ad) (N0 := N0) (X := X) (F := F) σ (1 + 1) (isPH isH1) (if z = 0 then 1 else -1) n (by first | assumption | omega | (simp [sg_at]; assumption) | (simp [sg_at]; done)) (by omega)) ok_yX8_farthestTo ml_RX10_241 (isPl0 (isPH isH1)) (oP (isPH isH1)) rfl hP hS hl.1 rfl (by decide) rfl rfl (Nat.le_of_ble_eq_true rfl) ⟨by decide, by decide⟩ dX10_greatest_16 (fun H locs hP hS => ?_)
    refine lv_tope (y := greXS σ n z) rfl ?_
    refine lv_istore_n (lv' := [(2, .int (greXS σ n z)), (0, .ref (ad 0)), (1, .int z)]) hx hb dX10_greatest_19 rfl hl (by decide) rfl (fun ls hl => ?_)
    refine lv_iload_n hx hb dX10_greatest_20 rfl (lv_at hl 0 rfl) ?_
    refine lv_if_ge (tgt := 34) hx hb dX10_greatest_21 (by decide) (fun c_21 => ?_) (fun c_21 => ?_)
    · refine lv_iload_n hx hb dX10_greatest_34 rfl (lv_at hl 0 rfl) ?_
      exact eIx S hr hlocks hP hS ⟨by decide, by decide⟩ dX10_greatest_35 ⟨rfl, (by unfold greXT; rw [if_pos c_21]), rfl⟩
    · exact tnS S G FC FZ hlt (List.mem_of_getElem? (i := 12) rfl) tn_190_194 hP hS hl.1 hout hlocks rfl (by decide) (Nat.le_of_ble_eq_true rfl) ⟨by decide, by decide⟩ (PX1 rfl (by unfold greXT; rw [if_neg c_21])) dX10_greatest_24 dX10_greatest_27 dX10_greatest_28 dX10_greatest_30 dX10_greatest_33
  refine lv_if_eq (tgt := 15) hx hb dX10_greatest_8 (by decide) (fun c_8 => ?_) (fun c_8 => ?_)
  · refine lv_iconst (v := 1) hx hb dX10_greatest_15 (by decide) ?_
    refine lv_tope (y := if z = 0 then 1 else -1) (by first | (simp only [c_8, ↓reduceIte, if_true, if_false]; done) | (simp [c_8]; done) | rfl) ?_
    exact jn_8_1 _ _ _ hP hS (lv_sub hl [0, 1] rfl)
  · refine lv_iconst (v := (-1)) hx hb dX10_greatest_11 (by decide) ?_
    refine lv_goto (tgt := 16) hx hb dX10_greatest_12 (by decide) ?_
    refine lv_tope (y := if z = 0 then 1 else -1) (by first | (simp only [c_8, ↓reduceIte, if_true, if_false]; done) | (simp [c_8]; done) | rfl) ?_
    exact jn_8_1 _ _ _ hP hS (lv_sub hl [0, 1] rfl)

theorem ok_yX10_ranked : COK RX10 yX10_ranked cX10_ranked 4 (some .int) 2 := ⟨im_yX10_ranked, se_RX10_yX10_ranked, in_RX10, co_yX10_ranked, ⟨rfl, by decide +kernel, by decide +kernel, by decide +kernel⟩, by decide⟩
set_option maxHeartbeats 1000000 in
set_option maxRecDepth 100000 in
theorem c_X10_ranked (l : Launch) {D : va_G} {ct : Nat → ClassId} {ek ad : Nat → Nat} {N0 : Nat} {X : va_W} {F : State → Prop} (σ : Mem) (w : Int32) (x : Int32) (n : Nat) (mb : Nat) (hO : HOK σ 1 n mb) (cs : Nat → Nat) (hF : ∀ U, F U → FX ek cs N0 U) (hY : ∀ U, F U → FY U) (hlt : l.stackTraces = false) : MXi l yX10_ranked cX10_ranked 4 (some .int) 6 1 D ct ek ad N0 X F [.ref (ad 0), .int w, .int x] σ (fun r τ => τ = σ ∧ ranXT σ n w x = 0 ∧ r = ranXS σ n w x) (PXd ["java/lang/IllegalArgumentException", "java/util/NoSuchElementException"] (ranXT σ n w x) (fun τ => τ = σ)) := by
  refine ms0x (own := RX10) (by decide) rfl (Nat.le_of_ble_eq_true rfl) (fun p e s m args below meth c S hr hlocks hout G hP hS ls hl => ?_)
  have hx := S.1
  have hb := S.2.1
  replace hl : lv_has ls 4 [(0, .ref (ad 0)), (1, .int w), (2, .int x)] := hl
  have FC := hF s G.2.2.2.2.2
  have FZ := hY s G.2.2.2.2.2
  have hn := hO.1
  have hn6 := hO.2.1
  have hB0 := hO.2.2.1
  have hm := hB0.1
  have hm6 := hB0.2.1
  refine lv_iload_n hx hb dX10_ranked_0 rfl (lv_at hl 1 rfl) ?_
  refine lv_if_lt (tgt := 9) hx hb dX10_ranked_1 (by decide) (fun c_1 => ?_) (fun c_1 => ?_)
  · exact thS (names := ["java/lang/RuntimeException", "java/lang/Exception"]) S G FC FZ hlt (List.mem_of_getElem? (i := 13) rfl) th_137_141 hP hS hl.1 hout hlocks rfl ⟨rfl, by decide⟩ (Nat.le_of_ble_eq_true rfl) ⟨by decide, by decide⟩ (PX1 rfl (by unfold ranXT; rw [if_pos c_1])) dX10_ranked_9 dX10_ranked_12 dX10_ranked_13 dX10_ranked_15 dX10_ranked_18
  · refine lv_iload_n hx hb dX10_ranked_4 rfl (lv_at hl 1 rfl) ?_
    refine lv_iconst (v := 3) hx hb dX10_ranked_5 (by decide) ?_
    refine lv_icmp_le (tgt := 19) hx hb dX10_ranked_6 (by decide) (fun c_6 => ?_) (fun c_6 => ?_)
    · refine lv_aload_n hx hb dX10_ranked_19 rfl (lv_at hl 0 rfl) ?_
      refine gf S G hP 0 0 (by decide) oX rfl inX10 (by decide) fl_RX10_10 rfl rfl dX10_ranked_20 ?_
      refine gfN S G hP 1 0 (isHl0 isH1) (oH isH1) rfl inX5 (by decide) nw_RX10_107 rfl rfl dX10_ranked_23 ?_
      refine lv_iload_n hx hb dX10_ranked_26 rfl (lv_at hl 1 rfl) ?_
      refine lv_iload_n hx hb dX10_ranked_27 rfl (lv_at hl 2 rfl) ?_
      refine cVie (As := [.int w, .int x]) S G (1 + 1) (c_X8_atPlace l (D := D) (ct := ct) (ek := ek) (ad := ad) (N0 := N0) (X := X) (F := F) σ (1 + 1) (isPH isH1) w x n (by first | assumption | omega | (simp [sg_at]; assumption) | (simp [sg_at]; done)) (by omega)) ok_yX8_atPlace ml_RX10_248 (isPl0 (isPH isH1)) (oP (isPH isH1)) rfl hP hS hl.1 rfl (by decide) rfl rfl (Nat.le_of_ble_eq_true rfl) ⟨by decide, by decide⟩ dX10_ranked_28 (fun H locs hP hS => ?_)
      refine lv_tope (y := ranXS σ n w x) rfl ?_
      refine lv_istore_n (lv' := [(3, .int (ranXS σ n w x)), (0, .ref (ad 0)), (1, .int w), (2, .int x)]) hx hb dX10_ranked_31 rfl hl (by decide) rfl (fun ls hl => ?_)
      refine lv_iload_n hx hb dX10_ranked_32 rfl (lv_at hl 0 rfl) ?_
      refine lv_if_ge (tgt := 46) hx hb dX10_ranked_33 (by decide) (fun c_33 => ?_) (fun c_33 => ?_)
      · refine lv_iload_n hx hb dX10_ranked_46 rfl (lv_at hl 0 rfl) ?_
        exact eIx S hr hlocks hP hS ⟨by decide, by decide⟩ dX10_ranked_47 ⟨rfl, (by unfold ranXT; rw [if_neg c_1, if_pos c_6, if_pos c_33]), rfl⟩
      · exact tnS S G FC FZ hlt (List.mem_of_getElem? (i := 14) rfl) tn_190_194 hP hS hl.1 hout hlocks rfl (by decide) (Nat.le_of_ble_eq_true rfl) ⟨by decide, by decide⟩ (PX2 rfl (by unfold ranXT; rw [if_neg c_1, if_pos c_6, if_neg c_33])) dX10_ranked_36 dX10_ranked_39 dX10_ranked_40 dX10_ranked_42 dX10_ranked_45
    · exact thS (names := ["java/lang/RuntimeException", "java/lang/Exception"]) S G FC FZ hlt (List.mem_of_getElem? (i := 13) rfl) th_137_141 hP hS hl.1 hout hlocks rfl ⟨rfl, by decide⟩ (Nat.le_of_ble_eq_true rfl) ⟨by decide, by decide⟩ (PX1 rfl (by unfold ranXT; rw [if_neg c_1, if_neg c_6])) dX10_ranked_9 dX10_ranked_12 dX10_ranked_13 dX10_ranked_15 dX10_ranked_18

theorem ok_yX10_weakest : COK RX10 yX10_weakest cX10_weakest 3 (some .int) 1 := ⟨im_yX10_weakest, se_RX10_yX10_weakest, in_RX10, co_yX10_weakest, ⟨rfl, by decide +kernel, by decide +kernel, by decide +kernel⟩, by decide⟩
set_option maxHeartbeats 1000000 in
set_option maxRecDepth 100000 in
theorem c_X10_weakest (l : Launch) {D : va_G} {ct : Nat → ClassId} {ek ad : Nat → Nat} {N0 : Nat} {X : va_W} {F : State → Prop} (σ : Mem) (x : Int32) (n : Nat) (mb : Nat) (hO : HOK σ 1 n mb) (cs : Nat → Nat) (hF : ∀ U, F U → FX ek cs N0 U) (hY : ∀ U, F U → FY U) (hlt : l.stackTraces = false) : MXi l yX10_weakest cX10_weakest 3 (some .int) 6 1 D ct ek ad N0 X F [.ref (ad 0), .int x] σ (fun r τ => τ = σ ∧ weaXT σ mb x = 0 ∧ r = weaXS σ mb x) (PXd ["java/util/NoSuchElementException"] (weaXT σ mb x) (fun τ => τ = σ)) := by
  refine ms0x (own := RX10) (by decide) rfl (Nat.le_of_ble_eq_true rfl) (fun p e s m args below meth c S hr hlocks hout G hP hS ls hl => ?_)
  have hx := S.1
  have hb := S.2.1
  replace hl : lv_has ls 3 [(0, .ref (ad 0)), (1, .int x)] := hl
  have FC := hF s G.2.2.2.2.2
  have FZ := hY s G.2.2.2.2.2
  have hn := hO.1
  have hn6 := hO.2.1
  have hB0 := hO.2.2.1
  have hm := hB0.1
  have hm6 := hB0.2.1
  refine lv_aload_n hx hb dX10_weakest_0 rfl (lv_at hl 0 rfl) ?_
  refine gf S G hP 0 0 (by decide) oX rfl inX10 (by decide) fl_RX10_10 rfl rfl dX10_weakest_1 ?_
  refine gfN S G hP 1 1 (isHl0 isH1) (oH isH1) rfl inX5 (by decide) nw_RX10_151 rfl rfl dX10_weakest_4 ?_
  refine lv_iload_n hx hb dX10_weakest_7 rfl (lv_at hl 1 rfl) ?_
  refine lv_aload_n hx hb dX10_weakest_8 rfl (lv_at hl 0 rfl) ?_
  refine gf S G hP 0 0 (by decide) oX rfl inX10 (by decide) fl_RX10_10 rfl rfl dX10_weakest_9 ?_
  refine gfN S G hP 1 0 (isHl0 isH1) (oH isH1) rfl inX5 (by decide) nw_RX10_107 rfl rfl dX10_weakest_12 ?_
  refine cVie (As := [.int x, .ref (ad (1 + 1))]) S G (1 + 15) (c_X1_atPlace l (D := D) (ct := ct) (ek := ek) (ad := ad) (N0 := N0) (X := X) (F := F) σ (1 + 15) (isBH isH1) x (1 + 1) (isPH isH1) mb hB0) ok_yX1_atPlace ml_RX10_253 (isBl0 (isBH isH1)) (oB (isBH isH1)) rfl hP hS hl.1 rfl (by decide) rfl rfl (Nat.le_of_ble_eq_true rfl) ⟨by decide, by decide⟩ dX10_weakest_15 (fun H locs hP hS => ?_)
  refine lv_tope (y := weaXS σ mb x) rfl ?_
  refine lv_istore_n (lv' := [(2, .int (weaXS σ mb x)), (0, .ref (ad 0)), (1, .int x)]) hx hb dX10_weakest_18 rfl hl (by decide) rfl (fun ls hl => ?_)
  refine lv_iload_n hx hb dX10_weakest_19 rfl (lv_at hl 0 rfl) ?_
  refine lv_if_ge (tgt := 33) hx hb dX10_weakest_20 (by decide) (fun c_20 => ?_) (fun c_20 => ?_)
  · refine lv_iload_n hx hb dX10_weakest_33 rfl (lv_at hl 0 rfl) ?_
    exact eIx S hr hlocks hP hS ⟨by decide, by decide⟩ dX10_weakest_34 ⟨rfl, (by unfold weaXT; rw [if_pos c_20]), rfl⟩
  · exact tnS S G FC FZ hlt (List.mem_of_getElem? (i := 14) rfl) tn_190_194 hP hS hl.1 hout hlocks rfl (by decide) (Nat.le_of_ble_eq_true rfl) ⟨by decide, by decide⟩ (PX1 rfl (by unfold weaXT; rw [if_neg c_20])) dX10_weakest_23 dX10_weakest_26 dX10_weakest_27 dX10_weakest_29 dX10_weakest_32

theorem ok_yX10_append : COK RX10 yX10_append cX10_append 2 (some .int) 1 := ⟨im_yX10_append, se_RX10_yX10_append, in_RX10, co_yX10_append, ⟨rfl, by decide +kernel, by decide +kernel, by decide +kernel⟩, by decide⟩
set_option maxHeartbeats 1000000 in
set_option maxRecDepth 100000 in
theorem c_X10_append (l : Launch) {D : va_G} {ct : Nat → ClassId} {ek ad : Nat → Nat} {N0 : Nat} {X : va_W} {F : State → Prop} (σ : Mem) (ch : Int32) (hc9 : vp_nar .char ch = ch) (L : Nat) (hL : σ 239 3 = nI L) (hL1 : L ≤ 60) (cs : Nat → Nat) (hF : ∀ U, F U → FX ek cs N0 U) (hY : ∀ U, F U → FY U) (hlt : l.stackTraces = false) : MXi l yX10_append cX10_append 2 (some .int) 6 1 D ct ek ad N0 X F [.ref (ad 0), .int ch] σ (fun r τ => τ = sg (sg σ 240 L ch) 239 3 (nI (L + 1)) ∧ apeXT L = 0 ∧ r = nI (L + 1)) (PXd ["java/lang/IllegalStateException"] (apeXT L) (fun τ => τ = σ)) := by
  refine ms0x (own := RX10) (by decide) rfl (Nat.le_of_ble_eq_true rfl) (fun p e s m args below meth c S hr hlocks hout G hP hS ls hl => ?_)
  have hx := S.1
  have hb := S.2.1
  replace hl : lv_has ls 2 [(0, .ref (ad 0)), (1, .int ch)] := hl
  have FC := hF s G.2.2.2.2.2
  have FZ := hY s G.2.2.2.2.2
  refine lv_aload_n hx hb dX10_append_0 rfl (lv_at hl 0 rfl) ?_
  refine gf S G hP 0 6 (by decide) oX rfl inX10 (by decide) fl_RX10_46 rfl rfl dX10_append_1 ?_
  refine cVie (As := []) S G 239 (c_X9_isFull l (D := D) (ct := ct) (ek := ek) (ad := ad) (N0 := N0) (X := X) (F := F) σ) ok_yX9_isFull ml_RX10_262 (by decide) oTX rfl hP hS hl.1 rfl (by decide) rfl rfl (Nat.le_of_ble_eq_true rfl) ⟨by decide, by decide⟩ dX10_append_4 (fun H locs hP hS => ?_)
  refine lv_if_eq (tgt := 21) hx hb dX10_append_7 (by decide) (fun c_7 => ?_) (fun c_7 => ?_)
  · have hlt : L < 60 := by
      have h9 : σ 239 3 < 60 := by
        by_cases g : σ 239 3 < 60
        · exact g
        · rw [if_neg g] at c_7; exact absurd c_7 (by decide)
      rw [hL] at h9
      by_cases g : L < 60
      · exact g
      · exact absurd h9 (nI_nlt (b := 60) (by omega) (by omega))
    refine lv_aload_n hx hb dX10_append_21 rfl (lv_at hl 0 rfl) ?_
    refine gf S G hP 0 6 (by decide) oX rfl inX10 (by decide) fl_RX10_46 rfl rfl dX10_append_22 ?_
    refine lv_iload_n hx hb dX10_append_25 rfl (lv_at hl 1 rfl) ?_
    refine cVie (As := [.int ch]) S G 239 (c_X9_add l (D := D) (ct := ct) (ek := ek) (ad := ad) (N0 := N0) (X := X) (F := F) σ ch (by first | assumption | omega | (simp [sg_at]; assumption) | (simp [sg_at]; done)) L (by first | assumption | omega | (simp [sg_at]; assumption) | (simp [sg_at]; done)) hlt) ok_yX9_add ml_RX10_270 (by decide) oTX rfl hP hS hl.1 rfl (by decide) rfl rfl (Nat.le_of_ble_eq_true rfl) ⟨by decide, by decide⟩ dX10_append_26 (fun H locs hP hS => ?_)
    exact eIx S hr hlocks hP hS ⟨by decide, by decide⟩ dX10_append_29 ⟨rfl, (by unfold apeXT; rw [if_pos hlt]), rfl⟩
  · have hge : ¬ L < 60 := fun g => c_7 (if_pos (by rw [hL]; exact nI_lt (b := 60) g (by omega)))
    exact thSW (names := ["java/lang/RuntimeException", "java/lang/Exception"]) S G FC FZ hlt (List.mem_of_getElem? (i := 15) rfl) th_265_269 hP hS hl.1 hout hlocks rfl ⟨rfl, by decide⟩ (Nat.le_of_ble_eq_true rfl) ⟨by decide, by decide⟩ (PX1 rfl (by unfold apeXT; rw [if_neg hge])) dX10_append_10 dX10_append_13 dX10_append_14 dX10_append_17 dX10_append_20

theorem ok_yX10_faultPosition : COK RX10 yX10_faultPosition cX10_faultPosition 1 (some .int) 0 := ⟨im_yX10_faultPosition, se_RX10_yX10_faultPosition, in_RX10, co_yX10_faultPosition, ⟨rfl, by decide +kernel, by decide +kernel, by decide +kernel⟩, by decide⟩
set_option maxHeartbeats 1000000 in
set_option maxRecDepth 100000 in
theorem c_X10_faultPosition (l : Launch) {D : va_G} {ct : Nat → ClassId} {ek ad : Nat → Nat} {N0 : Nat} {X : va_W} {F : State → Prop} (σ : Mem) : MI l yX10_faultPosition cX10_faultPosition 1 (some .int) 0 D ct ek ad N0 X F [.ref (ad 0)] σ (fun r τ => r = σ 0 10 ∧ τ = σ) := by
  refine ms0 (own := RX10) (by decide) rfl (Nat.le_of_ble_eq_true rfl) (fun p e s m args below meth c S hr hlocks hnm G hP hS ls hl => ?_)
  have hx := S.1
  have hb := S.2.1
  replace hl : lv_has ls 1 [(0, .ref (ad 0))] := hl
  refine lv_aload_n hx hb dX10_faultPosition_0 rfl (lv_at hl 0 rfl) ?_
  refine gf S G hP 0 10 (by decide) oX rfl inX10 (by decide) fl_RX10_64 rfl rfl dX10_faultPosition_1 ?_
  exact eI S hr hlocks hP hS dX10_faultPosition_4 (by first | exact ⟨rfl, rfl⟩ | (refine ⟨?_, rfl⟩; simp []; done) | (simp []; done) | (simp only [↓reduceIte, if_true, if_false, and_self, true_and]; done) | grind [])

theorem ok_yX10_reason : COK RX10 yX10_reason cX10_reason 2 (some .int) 1 := ⟨im_yX10_reason, se_RX10_yX10_reason, in_RX10, co_yX10_reason, ⟨rfl, by decide +kernel, by decide +kernel, by decide +kernel⟩, by decide⟩
set_option maxHeartbeats 1000000 in
set_option maxRecDepth 100000 in
theorem c_X10_reason (l : Launch) {D : va_G} {ct : Nat → ClassId} {ek ad : Nat → Nat} {N0 : Nat} {X : va_W} {F : State → Prop} (σ : Mem) (x : Int32) (cs : Nat → Nat) (hF : ∀ U, F U → FX ek cs N0 U) (hY : ∀ U, F U → FY U) (hlt : l.stackTraces = false) : MXi l yX10_reason cX10_reason 2 (some .int) 6 1 D ct ek ad N0 X F [.ref (ad 0), .int x] σ (fun r τ => τ = σ ∧ reaXT σ x = 0 ∧ r = reaX σ x) (PXd ["java/lang/IllegalArgumentException", "java/util/NoSuchElementException"] (reaXT σ x) (fun τ => τ = σ)) := by
  refine ms0x (own := RX10) (by decide) rfl (Nat.le_of_ble_eq_true rfl) (fun p e s m args below meth c S hr hlocks hout G hP hS ls hl => ?_)
  have hx := S.1
  have hb := S.2.1
  replace hl : lv_has ls 2 [(0, .ref (ad 0)), (1, .int x)] := hl
  have FC := hF s G.2.2.2.2.2
  have FZ := hY s G.2.2.2.2.2
  refine lv_iload_n hx hb dX10_reason_0 rfl (lv_at hl 1 rfl) ?_
  refine lv_if_lt (tgt := 9) hx hb dX10_reason_1 (by decide) (fun c_1 => ?_) (fun c_1 => ?_)
  · exact thSW (names := ["java/lang/RuntimeException", "java/lang/Exception"]) S G FC FZ hlt (List.mem_of_getElem? (i := 18) rfl) th_137_141 hP hS hl.1 hout hlocks rfl ⟨rfl, by decide⟩ (Nat.le_of_ble_eq_true rfl) ⟨by decide, by decide⟩ (PX1 rfl (by unfold reaXT; rw [if_pos c_1])) dX10_reason_9 dX10_reason_12 dX10_reason_13 dX10_reason_16 dX10_reason_19
  · refine lv_iload_n hx hb dX10_reason_4 rfl (lv_at hl 1 rfl) ?_
    refine lv_iconst (v := 2) hx hb dX10_reason_5 (by decide) ?_
    refine lv_icmp_le (tgt := 20) hx hb dX10_reason_6 (by decide) (fun c_6 => ?_) (fun c_6 => ?_)
    · refine lv_aload_n hx hb dX10_reason_20 rfl (lv_at hl 0 rfl) ?_
      refine gf S G hP 0 11 (by decide) oX rfl inX10 (by decide) fl_RX10_313 rfl rfl dX10_reason_21 ?_
      refine lv_if_ne (tgt := 38) hx hb dX10_reason_24 (by decide) (fun c_24 => ?_) (fun c_24 => ?_)
      · refine lv_iload_n hx hb dX10_reason_38 rfl (lv_at hl 1 rfl) ?_
        refine lv_if_ne (tgt := 47) hx hb dX10_reason_39 (by decide) (fun c_39 => ?_) (fun c_39 => ?_)
        · refine lv_iload_n hx hb dX10_reason_47 rfl (lv_at hl 1 rfl) ?_
          refine lv_iconst (v := 1) hx hb dX10_reason_48 (by decide) ?_
          refine lv_icmp_ne (tgt := 59) hx hb dX10_reason_49 (by decide) (fun c_49 => ?_) (fun c_49 => ?_)
          · refine lv_aload_n hx hb dX10_reason_59 rfl (lv_at hl 0 rfl) ?_
            refine gf S G hP 0 13 (by decide) oX rfl inX10 (by decide) fl_RX10_321 rfl rfl dX10_reason_60 ?_
            exact eIx S hr hlocks hP hS ⟨by decide, by decide⟩ dX10_reason_63 ⟨rfl, (by unfold reaXT; rw [if_neg c_1, if_pos c_6, if_neg c_24]), (by unfold reaX; rw [if_neg c_39, if_neg c_49])⟩
          · refine lv_aload_n hx hb dX10_reason_52 rfl (lv_at hl 0 rfl) ?_
            refine gf S G hP 0 12 (by decide) oX rfl inX10 (by decide) fl_RX10_318 rfl rfl dX10_reason_53 ?_
            refine lv_goto (tgt := 63) hx hb dX10_reason_56 (by decide) ?_
            exact eIx S hr hlocks hP hS ⟨by decide, by decide⟩ dX10_reason_63 ⟨rfl, (by unfold reaXT; rw [if_neg c_1, if_pos c_6, if_neg c_24]), (by unfold reaX; rw [if_neg c_39, if_pos c_49])⟩
        · refine lv_aload_n hx hb dX10_reason_42 rfl (lv_at hl 0 rfl) ?_
          refine gf S G hP 0 11 (by decide) oX rfl inX10 (by decide) fl_RX10_313 rfl rfl dX10_reason_43 ?_
          exact eIx S hr hlocks hP hS ⟨by decide, by decide⟩ dX10_reason_46 ⟨rfl, (by unfold reaXT; rw [if_neg c_1, if_pos c_6, if_neg c_24]), (by unfold reaX; rw [if_pos c_39])⟩
      · exact tnSW S G FC FZ hlt (List.mem_of_getElem? (i := 19) rfl) tn_190_194 hP hS hl.1 hout hlocks rfl (by decide) (Nat.le_of_ble_eq_true rfl) ⟨by decide, by decide⟩ (PX2 rfl (by unfold reaXT; rw [if_neg c_1, if_pos c_6, if_pos c_24])) dX10_reason_27 dX10_reason_30 dX10_reason_31 dX10_reason_34 dX10_reason_37
    · exact thSW (names := ["java/lang/RuntimeException", "java/lang/Exception"]) S G FC FZ hlt (List.mem_of_getElem? (i := 18) rfl) th_137_141 hP hS hl.1 hout hlocks rfl ⟨rfl, by decide⟩ (Nat.le_of_ble_eq_true rfl) ⟨by decide, by decide⟩ (PX1 rfl (by unfold reaXT; rw [if_neg c_1, if_neg c_6])) dX10_reason_9 dX10_reason_12 dX10_reason_13 dX10_reason_16 dX10_reason_19

theorem ok_yX10_line : COK RX10 yX10_line cX10_line 2 (some .int) 1 := ⟨im_yX10_line, se_RX10_yX10_line, in_RX10, co_yX10_line, ⟨rfl, by decide +kernel, by decide +kernel, by decide +kernel⟩, by decide⟩
set_option maxHeartbeats 1000000 in
set_option maxRecDepth 100000 in
theorem c_X10_line (l : Launch) {D : va_G} {ct : Nat → ClassId} {ek ad : Nat → Nat} {N0 : Nat} {X : va_W} {F : State → Prop} (σ : Mem) (x : Int32) (n : Nat) (mb : Nat) (hO : HOK σ 1 n mb) (cs : Nat → Nat) (hF : ∀ U, F U → FX ek cs N0 U) (hY : ∀ U, F U → FY U) (hlt : l.stackTraces = false) : MXi l yX10_line cX10_line 2 (some .int) 7 1 D ct ek ad N0 X F [.ref (ad 0), .int x] σ (fun r τ => τ = wpM σ (1 + 1) n (tN x) ∧ npT σ x = 0 ∧ r = wpM σ (1 + 1) n (tN x) 274 1) (PXd ["java/lang/IndexOutOfBoundsException"] (npT σ x) (fun τ => τ = σ)) := by
  refine ms0x (own := RX10) (by decide) rfl (Nat.le_of_ble_eq_true rfl) (fun p e s m args below meth c S hr hlocks hout G hP hS ls hl => ?_)
  have hx := S.1
  have hb := S.2.1
  replace hl : lv_has ls 2 [(0, .ref (ad 0)), (1, .int x)] := hl
  have FC := hF s G.2.2.2.2.2
  have FZ := hY s G.2.2.2.2.2
  have hn := hO.1
  have hn6 := hO.2.1
  have hB0 := hO.2.2.1
  have hm := hB0.1
  have hm6 := hB0.2.1
  refine lv_aload_n hx hb dX10_line_0 rfl (lv_at hl 0 rfl) ?_
  refine lv_iload_n hx hb dX10_line_1 rfl (lv_at hl 1 rfl) ?_
  refine cXv (As := [.int x]) S G 0 (c_X10_needPerson l (D := D) (ct := ct) (ek := ek) (ad := ad) (N0 := N0) (X := X) (F := F) σ x cs (by first | assumption | omega | (simp [sg_at]; assumption) | (simp [sg_at]; done)) (by first | assumption | omega | (simp [sg_at]; assumption) | (simp [sg_at]; done)) (by first | assumption | omega | (simp [sg_at]; assumption) | (simp [sg_at]; done))) ok_yX10_needPerson ml_RX10_103 (by decide) oX rfl hP hS hl.1 rfl (by decide) rfl rfl (Nat.le_of_ble_eq_true rfl) ⟨by decide, by decide⟩ hout hlocks dX10_line_2 (fun E τ h => PXu (P := fun τ => τ = σ) h (fun z => z) (fun w => w)) (fun τ_2 H locs hp_r_1 hP hS => ?_)
  obtain ⟨e9, hB9⟩ := hp_r_1
  rw [e9] at hP
  obtain ⟨h1, h1l⟩ := holdN hB9 hn (by omega)
  refine lv_aload_n hx hb dX10_line_5 rfl (lv_at hl 0 rfl) ?_
  refine gf S G hP 0 8 (by decide) oX rfl inX10 (by decide) fl_RX10_60 rfl rfl dX10_line_6 ?_
  refine lv_iload_n hx hb dX10_line_9 rfl (lv_at hl 1 rfl) ?_
  refine lv_tope (y := nI (tN (x))) h1 ?_
  refine lv_aload_n hx hb dX10_line_10 rfl (lv_at hl 0 rfl) ?_
  refine gf S G hP 0 0 (by decide) oX rfl inX10 (by decide) fl_RX10_10 rfl rfl dX10_line_11 ?_
  refine gfN S G hP 1 0 (isHl0 isH1) (oH isH1) rfl inX5 (by decide) nw_RX10_107 rfl rfl dX10_line_14 ?_
  refine cVie (As := [.int (nI (tN (x))), .ref (ad (1 + 1))]) S G 274 (c_X7_writePerson l (D := D) (ct := ct) (ek := ek) (ad := ad) (N0 := N0) (X := X) (F := F) σ (tN (x)) (1 + 1) (isPH isH1) n (by first | assumption | omega | (simp [sg_at]; assumption) | (simp [sg_at]; done)) (by omega) (by omega)) ok_yX7_writePerson ml_RX10_324 (by decide) oLN rfl hP hS hl.1 rfl (by decide) rfl rfl (Nat.le_of_ble_eq_true rfl) ⟨by decide, by decide⟩ dX10_line_17 (fun H locs hP hS => ?_)
  exact eIx S hr hlocks hP hS ⟨by decide, by decide⟩ dX10_line_20 ⟨rfl, np_0 hB9, rfl⟩

theorem ok_yX10_beams : COK RX10 yX10_beams cX10_beams 1 (some .int) 0 := ⟨im_yX10_beams, se_RX10_yX10_beams, in_RX10, co_yX10_beams, ⟨rfl, by decide +kernel, by decide +kernel, by decide +kernel⟩, by decide⟩
set_option maxHeartbeats 1000000 in
set_option maxRecDepth 100000 in
theorem c_X10_beams (l : Launch) {D : va_G} {ct : Nat → ClassId} {ek ad : Nat → Nat} {N0 : Nat} {X : va_W} {F : State → Prop} (σ : Mem) (n : Nat) (mb : Nat) (hO : HOK σ 1 n mb) (hck : ∀ q, q < mb → σ (1 + 15 + 4) q = nI (tN (σ (1 + 15 + 4) q)) ∧ tN (σ (1 + 15 + 4) q) ≤ 9) : MI l yX10_beams cX10_beams 1 (some .int) 3 D ct ek ad N0 X F [.ref (ad 0)] σ (fun r τ => r = wbM σ (1 + 15) mb 274 1 ∧ τ = wbM σ (1 + 15) mb) := by
  refine ms0 (own := RX10) (by decide) rfl (Nat.le_of_ble_eq_true rfl) (fun p e s m args below meth c S hr hlocks hnm G hP hS ls hl => ?_)
  have hx := S.1
  have hb := S.2.1
  replace hl : lv_has ls 1 [(0, .ref (ad 0))] := hl
  have hn := hO.1
  have hn6 := hO.2.1
  have hB0 := hO.2.2.1
  have hm := hB0.1
  have hm6 := hB0.2.1
  refine lv_aload_n hx hb dX10_beams_0 rfl (lv_at hl 0 rfl) ?_
  refine gf S G hP 0 8 (by decide) oX rfl inX10 (by decide) fl_RX10_60 rfl rfl dX10_beams_1 ?_
  refine lv_aload_n hx hb dX10_beams_4 rfl (lv_at hl 0 rfl) ?_
  refine gf S G hP 0 0 (by decide) oX rfl inX10 (by decide) fl_RX10_10 rfl rfl dX10_beams_5 ?_
  refine gfN S G hP 1 1 (isHl0 isH1) (oH isH1) rfl inX5 (by decide) nw_RX10_151 rfl rfl dX10_beams_8 ?_
  refine cVie (As := [.ref (ad (1 + 15))]) S G 274 (c_X7_writeBeams l (D := D) (ct := ct) (ek := ek) (ad := ad) (N0 := N0) (X := X) (F := F) σ (1 + 15) (isBH isH1) mb (by first | assumption | omega | (simp [sg_at]; assumption) | (simp [sg_at]; done)) (by omega) (by first | assumption | omega | (simp [sg_at]; assumption) | (simp [sg_at]; done))) ok_yX7_writeBeams ml_RX10_327 (by decide) oLN rfl hP hS hl.1 rfl (by decide) rfl rfl (Nat.le_of_ble_eq_true rfl) ⟨Nat.zero_le _, Nat.zero_le _⟩ dX10_beams_11 (fun H locs hP hS => ?_)
  exact eI S hr hlocks hP hS dX10_beams_14 (by first | exact ⟨rfl, rfl⟩ | (refine ⟨?_, rfl⟩; simp []; done) | (simp []; done) | (simp only [↓reduceIte, if_true, if_false, and_self, true_and]; done) | grind [])

theorem ok_yX10_character : COK RX10 yX10_character cX10_character 2 (some .char) 1 := ⟨im_yX10_character, se_RX10_yX10_character, in_RX10, co_yX10_character, ⟨rfl, by decide +kernel, by decide +kernel, by decide +kernel⟩, by decide⟩
set_option maxHeartbeats 1000000 in
set_option maxRecDepth 100000 in
theorem c_X10_character (l : Launch) {D : va_G} {ct : Nat → ClassId} {ek ad : Nat → Nat} {N0 : Nat} {X : va_W} {F : State → Prop} (σ : Mem) (x : Int32) (L : Nat) (hL : σ 274 1 = nI L) (hL1 : L ≤ 64) (hz : ∀ j, j < 64 → narrow .char (.int (σ 275 j)) = .int (σ 275 j)) (cs : Nat → Nat) (hF : ∀ U, F U → FX ek cs N0 U) (hY : ∀ U, F U → FY U) (hlt : l.stackTraces = false) : MXi l yX10_character cX10_character 2 (some .char) 6 1 D ct ek ad N0 X F [.ref (ad 0), .int x] σ (fun r τ => τ = σ ∧ chrXT σ x = 0 ∧ r = σ 275 (tN x)) (PXd ["java/lang/IndexOutOfBoundsException"] (chrXT σ x) (fun τ => τ = σ)) := by
  refine ms0x (own := RX10) (by decide) rfl (Nat.le_of_ble_eq_true rfl) (fun p e s m args below meth c S hr hlocks hout G hP hS ls hl => ?_)
  have hx := S.1
  have hb := S.2.1
  replace hl : lv_has ls 2 [(0, .ref (ad 0)), (1, .int x)] := hl
  have FC := hF s G.2.2.2.2.2
  have FZ := hY s G.2.2.2.2.2
  refine lv_iload_n hx hb dX10_character_0 rfl (lv_at hl 1 rfl) ?_
  refine lv_if_lt (tgt := 15) hx hb dX10_character_1 (by decide) (fun c_1 => ?_) (fun c_1 => ?_)
  · exact thSW (names := ["java/lang/RuntimeException", "java/lang/Exception"]) S G FC FZ hlt (List.mem_of_getElem? (i := 20) rfl) th_334_338 hP hS hl.1 hout hlocks rfl ⟨rfl, by decide⟩ (Nat.le_of_ble_eq_true rfl) ⟨by decide, by decide⟩ (PX1 rfl (by unfold chrXT; rw [if_pos c_1])) dX10_character_15 dX10_character_18 dX10_character_19 dX10_character_22 dX10_character_25
  · refine lv_iload_n hx hb dX10_character_4 rfl (lv_at hl 1 rfl) ?_
    refine lv_aload_n hx hb dX10_character_5 rfl (lv_at hl 0 rfl) ?_
    refine gf S G hP 0 8 (by decide) oX rfl inX10 (by decide) fl_RX10_60 rfl rfl dX10_character_6 ?_
    refine gfN S G hP 274 1 (by decide) oLN rfl inX7 (by decide) nw_RX10_331 rfl rfl dX10_character_9 ?_
    refine lv_icmp_lt (tgt := 26) hx hb dX10_character_12 (by decide) (fun c_12 => ?_) (fun c_12 => ?_)
    · obtain ⟨h1, h1l⟩ : x = nI (tN x) ∧ tN x < L := holdN (y := σ 274 1) (by unfold holdB; rw [if_neg c_1, if_neg (Int32.not_le.mpr c_12)]; decide) hL (by omega)
      refine lv_aload_n hx hb dX10_character_26 rfl (lv_at hl 0 rfl) ?_
      refine gf S G hP 0 8 (by decide) oX rfl inX10 (by decide) fl_RX10_60 rfl rfl dX10_character_27 ?_
      refine gfN S G hP 274 0 (by decide) oLN rfl inX7 (by decide) nw_RX10_339 rfl rfl dX10_character_30 ?_
      refine lv_iload_n hx hb dX10_character_33 rfl (lv_at hl 1 rfl) ?_
      refine lv_tope (y := nI (tN (x))) h1 ?_
      refine cld S G hP 275 (tN (x)) (by decide) (aLN _) rfl (by omega) (by decide) dX10_character_34 ?_
      exact eZx S hr hlocks hP hS ⟨by decide, by decide⟩ (hz _ (by omega)) dX10_character_35 ⟨rfl, (by unfold chrXT; rw [if_neg c_1, if_pos c_12]), rfl⟩
    · exact thSW (names := ["java/lang/RuntimeException", "java/lang/Exception"]) S G FC FZ hlt (List.mem_of_getElem? (i := 20) rfl) th_334_338 hP hS hl.1 hout hlocks rfl ⟨rfl, by decide⟩ (Nat.le_of_ble_eq_true rfl) ⟨by decide, by decide⟩ (PX1 rfl (by unfold chrXT; rw [if_neg c_1, if_neg c_12])) dX10_character_15 dX10_character_18 dX10_character_19 dX10_character_22 dX10_character_25

theorem ok_yX10_account : COK RX10 yX10_account cX10_account 2 (some .int) 1 := ⟨im_yX10_account, se_RX10_yX10_account, in_RX10, co_yX10_account, ⟨rfl, by decide +kernel, by decide +kernel, by decide +kernel⟩, by decide⟩
set_option maxHeartbeats 1000000 in
set_option maxRecDepth 100000 in
theorem c_X10_account (l : Launch) {D : va_G} {ct : Nat → ClassId} {ek ad : Nat → Nat} {N0 : Nat} {X : va_W} {F : State → Prop} (σ : Mem) (x : Int32) (n : Nat) (mb : Nat) (hO : HOK σ 1 n mb) (cs : Nat → Nat) (hF : ∀ U, F U → FX ek cs N0 U) (hY : ∀ U, F U → FY U) (hlt : l.stackTraces = false) : MXi l yX10_account cX10_account 2 (some .int) 6 1 D ct ek ad N0 X F [.ref (ad 0), .int x] σ (fun r τ => τ = σ ∧ accT x = 0 ∧ r = accX σ n x) (PXd ["java/lang/IllegalArgumentException"] (accT x) (fun τ => τ = σ)) := by
  refine ms0x (own := RX10) (by decide) rfl (Nat.le_of_ble_eq_true rfl) (fun p e s m args below meth c S hr hlocks hout G hP hS ls hl => ?_)
  have hx := S.1
  have hb := S.2.1
  replace hl : lv_has ls 2 [(0, .ref (ad 0)), (1, .int x)] := hl
  have FC := hF s G.2.2.2.2.2
  have FZ := hY s G.2.2.2.2.2
  have hn := hO.1
  have hn6 := hO.2.1
  have hB0 := hO.2.2.1
  have hm := hB0.1
  have hm6 := hB0.2.1
  refine lv_iload_n hx hb dX10_account_0 rfl (lv_at hl 1 rfl) ?_
  by_cases c_1_0 : x = 0
  · refine lv_tableIn (off := 59) (tgt := 60) hx hb dX10_account_1 (by rw [c_1_0]; decide) (by rw [c_1_0]; decide) (by rw [c_1_0]; rfl) (by decide) ?_
    refine lv_aload_n hx hb dX10_account_60 rfl (lv_at hl 0 rfl) ?_
    refine gf S G hP 0 0 (by decide) oX rfl inX10 (by decide) fl_RX10_10 rfl rfl dX10_account_61 ?_
    refine gfN S G hP 1 0 (isHl0 isH1) (oH isH1) rfl inX5 (by decide) nw_RX10_107 rfl rfl dX10_account_64 ?_
    refine gfN S G hP (1 + 1) 7 (isPl0 (isPH isH1)) (oP (isPH isH1)) rfl inX8 (by decide) nw_RX10_218 rfl rfl dX10_account_67 ?_
    exact eIx S hr hlocks hP hS ⟨by decide, by decide⟩ dX10_account_70 (by refine ⟨rfl, ?_, ?_⟩ <;> simp [accX, accT, c_1_0])
  by_cases c_1_1 : x = 1
  · refine lv_tableIn (off := 70) (tgt := 71) hx hb dX10_account_1 (by rw [c_1_1]; decide) (by rw [c_1_1]; decide) (by rw [c_1_1]; rfl) (by decide) ?_
    refine lv_aload_n hx hb dX10_account_71 rfl (lv_at hl 0 rfl) ?_
    refine gf S G hP 0 0 (by decide) oX rfl inX10 (by decide) fl_RX10_10 rfl rfl dX10_account_72 ?_
    refine gfN S G hP 1 0 (isHl0 isH1) (oH isH1) rfl inX5 (by decide) nw_RX10_107 rfl rfl dX10_account_75 ?_
    refine cVie (As := []) S G (1 + 1) (c_X8_pairCount l (D := D) (ct := ct) (ek := ek) (ad := ad) (N0 := N0) (X := X) (F := F) σ (1 + 1) (isPH isH1) n (by first | assumption | omega | (simp [sg_at]; assumption) | (simp [sg_at]; done)) (by omega)) ok_yX8_pairCount ml_RX10_352 (isPl0 (isPH isH1)) (oP (isPH isH1)) rfl hP hS hl.1 rfl (by decide) rfl rfl (Nat.le_of_ble_eq_true rfl) ⟨by decide, by decide⟩ dX10_account_78 (fun H locs hP hS => ?_)
    exact eIx S hr hlocks hP hS ⟨by decide, by decide⟩ dX10_account_81 (by refine ⟨rfl, ?_, ?_⟩ <;> simp [accX, accT, c_1_1])
  by_cases c_1_2 : x = 2
  · refine lv_tableIn (off := 81) (tgt := 82) hx hb dX10_account_1 (by rw [c_1_2]; decide) (by rw [c_1_2]; decide) (by rw [c_1_2]; rfl) (by decide) ?_
    refine lv_aload_n hx hb dX10_account_82 rfl (lv_at hl 0 rfl) ?_
    refine gf S G hP 0 0 (by decide) oX rfl inX10 (by decide) fl_RX10_10 rfl rfl dX10_account_83 ?_
    refine gfN S G hP 1 1 (isHl0 isH1) (oH isH1) rfl inX5 (by decide) nw_RX10_151 rfl rfl dX10_account_86 ?_
    refine gfN S G hP (1 + 15) 4 (isBl0 (isBH isH1)) (oB (isBH isH1)) rfl inX1 (by decide) nw_RX10_355 rfl rfl dX10_account_89 ?_
    exact eIx S hr hlocks hP hS ⟨by decide, by decide⟩ dX10_account_92 (by refine ⟨rfl, ?_, ?_⟩ <;> simp [accX, accT, c_1_2])
  by_cases c_1_3 : x = 3
  · refine lv_tableIn (off := 92) (tgt := 93) hx hb dX10_account_1 (by rw [c_1_3]; decide) (by rw [c_1_3]; decide) (by rw [c_1_3]; rfl) (by decide) ?_
    refine lv_aload_n hx hb dX10_account_93 rfl (lv_at hl 0 rfl) ?_
    refine gf S G hP 0 0 (by decide) oX rfl inX10 (by decide) fl_RX10_10 rfl rfl dX10_account_94 ?_
    refine gfN S G hP 1 0 (isHl0 isH1) (oH isH1) rfl inX5 (by decide) nw_RX10_107 rfl rfl dX10_account_97 ?_
    refine cVie (As := []) S G (1 + 1) (c_X8_plumbCount l (D := D) (ct := ct) (ek := ek) (ad := ad) (N0 := N0) (X := X) (F := F) σ (1 + 1) (isPH isH1) n (by first | assumption | omega | (simp [sg_at]; assumption) | (simp [sg_at]; done)) (by omega)) ok_yX8_plumbCount ml_RX10_349 (isPl0 (isPH isH1)) (oP (isPH isH1)) rfl hP hS hl.1 rfl (by decide) rfl rfl (Nat.le_of_ble_eq_true rfl) ⟨by decide, by decide⟩ dX10_account_100 (fun H locs hP hS => ?_)
    exact eIx S hr hlocks hP hS ⟨by decide, by decide⟩ dX10_account_103 (by refine ⟨rfl, ?_, ?_⟩ <;> simp [accX, accT, c_1_3])
  by_cases c_1_4 : x = 4
  · refine lv_tableIn (off := 103) (tgt := 104) hx hb dX10_account_1 (by rw [c_1_4]; decide) (by rw [c_1_4]; decide) (by rw [c_1_4]; rfl) (by decide) ?_
    refine lv_aload_n hx hb dX10_account_104 rfl (lv_at hl 0 rfl) ?_
    refine gf S G hP 0 0 (by decide) oX rfl inX10 (by decide) fl_RX10_10 rfl rfl dX10_account_105 ?_
    refine gfN S G hP 1 2 (isHl0 isH1) (oH isH1) rfl inX5 (by decide) nw_RX10_356 rfl rfl dX10_account_108 ?_
    exact eIx S hr hlocks hP hS ⟨by decide, by decide⟩ dX10_account_111 (by refine ⟨rfl, ?_, ?_⟩ <;> simp [accX, accT, c_1_4])
  by_cases c_1_5 : x = 5
  · refine lv_tableIn (off := 111) (tgt := 112) hx hb dX10_account_1 (by rw [c_1_5]; decide) (by rw [c_1_5]; decide) (by rw [c_1_5]; rfl) (by decide) ?_
    refine lv_aload_n hx hb dX10_account_112 rfl (lv_at hl 0 rfl) ?_
    refine gf S G hP 0 0 (by decide) oX rfl inX10 (by decide) fl_RX10_10 rfl rfl dX10_account_113 ?_
    refine gfN S G hP 1 0 (isHl0 isH1) (oH isH1) rfl inX5 (by decide) nw_RX10_107 rfl rfl dX10_account_116 ?_
    refine cVie (As := []) S G (1 + 1) (c_X8_factSum l (D := D) (ct := ct) (ek := ek) (ad := ad) (N0 := N0) (X := X) (F := F) σ (1 + 1) (isPH isH1) n (by first | assumption | omega | (simp [sg_at]; assumption) | (simp [sg_at]; done)) (by omega)) ok_yX8_factSum ml_RX10_359 (isPl0 (isPH isH1)) (oP (isPH isH1)) rfl hP hS hl.1 rfl (by decide) rfl rfl (Nat.le_of_ble_eq_true rfl) ⟨by decide, by decide⟩ dX10_account_119 (fun H locs hP hS => ?_)
    exact eIx S hr hlocks hP hS ⟨by decide, by decide⟩ dX10_account_122 (by refine ⟨rfl, ?_, ?_⟩ <;> simp [accX, accT, c_1_5])
  by_cases c_1_6 : x = 6
  · refine lv_tableIn (off := 122) (tgt := 123) hx hb dX10_account_1 (by rw [c_1_6]; decide) (by rw [c_1_6]; decide) (by rw [c_1_6]; rfl) (by decide) ?_
    refine lv_aload_n hx hb dX10_account_123 rfl (lv_at hl 0 rfl) ?_
    refine gf S G hP 0 0 (by decide) oX rfl inX10 (by decide) fl_RX10_10 rfl rfl dX10_account_124 ?_
    refine gfN S G hP 1 3 (isHl0 isH1) (oH isH1) rfl inX5 (by decide) nw_RX10_362 rfl rfl dX10_account_127 ?_
    exact eIx S hr hlocks hP hS ⟨by decide, by decide⟩ dX10_account_130 (by refine ⟨rfl, ?_, ?_⟩ <;> simp [accX, accT, c_1_6])
  by_cases c_1_7 : x = 7
  · refine lv_tableIn (off := 130) (tgt := 131) hx hb dX10_account_1 (by rw [c_1_7]; decide) (by rw [c_1_7]; decide) (by rw [c_1_7]; rfl) (by decide) ?_
    refine lv_aload_n hx hb dX10_account_131 rfl (lv_at hl 0 rfl) ?_
    refine gf S G hP 0 0 (by decide) oX rfl inX10 (by decide) fl_RX10_10 rfl rfl dX10_account_132 ?_
    refine gfN S G hP 1 4 (isHl0 isH1) (oH isH1) rfl inX5 (by decide) nw_RX10_365 rfl rfl dX10_account_135 ?_
    exact eIx S hr hlocks hP hS ⟨by decide, by decide⟩ dX10_account_138 (by refine ⟨rfl, ?_, ?_⟩ <;> simp [accX, accT, c_1_7])
  by_cases c_1_8 : x = 8
  · refine lv_tableIn (off := 138) (tgt := 139) hx hb dX10_account_1 (by rw [c_1_8]; decide) (by rw [c_1_8]; decide) (by rw [c_1_8]; rfl) (by decide) ?_
    refine lv_aload_n hx hb dX10_account_139 rfl (lv_at hl 0 rfl) ?_
    refine gf S G hP 0 0 (by decide) oX rfl inX10 (by decide) fl_RX10_10 rfl rfl dX10_account_140 ?_
    refine gfN S G hP 1 0 (isHl0 isH1) (oH isH1) rfl inX5 (by decide) nw_RX10_107 rfl rfl dX10_account_143 ?_
    refine cVie (As := []) S G (1 + 1) (c_X8_tiltSum l (D := D) (ct := ct) (ek := ek) (ad := ad) (N0 := N0) (X := X) (F := F) σ (1 + 1) (isPH isH1) n (by first | assumption | omega | (simp [sg_at]; assumption) | (simp [sg_at]; done)) (by omega)) ok_yX8_tiltSum ml_RX10_346 (isPl0 (isPH isH1)) (oP (isPH isH1)) rfl hP hS hl.1 rfl (by decide) rfl rfl (Nat.le_of_ble_eq_true rfl) ⟨by decide, by decide⟩ dX10_account_146 (fun H locs hP hS => ?_)
    exact eIx S hr hlocks hP hS ⟨by decide, by decide⟩ dX10_account_149 (by refine ⟨rfl, ?_, ?_⟩ <;> simp [accX, accT, c_1_8])
  by_cases c_1_9 : x = 9
  · refine lv_tableIn (off := 149) (tgt := 150) hx hb dX10_account_1 (by rw [c_1_9]; decide) (by rw [c_1_9]; decide) (by rw [c_1_9]; rfl) (by decide) ?_
    refine lv_aload_n hx hb dX10_account_150 rfl (lv_at hl 0 rfl) ?_
    refine gf S G hP 0 5 (by decide) oX rfl inX10 (by decide) fl_RX10_39 rfl rfl dX10_account_151 ?_
    refine gfN S G hP 77 2 (by decide) oHI rfl inX4 (by decide) nw_RX10_368 rfl rfl dX10_account_154 ?_
    exact eIx S hr hlocks hP hS ⟨by decide, by decide⟩ dX10_account_157 (by refine ⟨rfl, ?_, ?_⟩ <;> simp [accX, accT, c_1_9])
  by_cases c_1_10 : x = 10
  · refine lv_tableIn (off := 157) (tgt := 158) hx hb dX10_account_1 (by rw [c_1_10]; decide) (by rw [c_1_10]; decide) (by rw [c_1_10]; rfl) (by decide) ?_
    refine lv_aload_n hx hb dX10_account_158 rfl (lv_at hl 0 rfl) ?_
    refine gf S G hP 0 6 (by decide) oX rfl inX10 (by decide) fl_RX10_46 rfl rfl dX10_account_159 ?_
    refine gfN S G hP 239 3 (by decide) oTX rfl inX9 (by decide) nw_RX10_369 rfl rfl dX10_account_162 ?_
    exact eIx S hr hlocks hP hS ⟨by decide, by decide⟩ dX10_account_165 (by refine ⟨rfl, ?_, ?_⟩ <;> simp [accX, accT, c_1_10])
  refine lv_tableOut (tgt := 166) hx hb dX10_account_1 (swout (0) (10) (fun n h1 h2 he => by
    rcases (show n = 0 ∨ n = 1 ∨ n = 2 ∨ n = 3 ∨ n = 4 ∨ n = 5 ∨ n = 6 ∨ n = 7 ∨ n = 8 ∨ n = 9 ∨ n = 10 by omega) with rfl | rfl | rfl | rfl | rfl | rfl | rfl | rfl | rfl | rfl | rfl
    · exact c_1_0 (Int32.toInt_inj.mp he)
    · exact c_1_1 (Int32.toInt_inj.mp he)
    · exact c_1_2 (Int32.toInt_inj.mp he)
    · exact c_1_3 (Int32.toInt_inj.mp he)
    · exact c_1_4 (Int32.toInt_inj.mp he)
    · exact c_1_5 (Int32.toInt_inj.mp he)
    · exact c_1_6 (Int32.toInt_inj.mp he)
    · exact c_1_7 (Int32.toInt_inj.mp he)
    · exact c_1_8 (Int32.toInt_inj.mp he)
    · exact c_1_9 (Int32.toInt_inj.mp he)
    · exact c_1_10 (Int32.toInt_inj.mp he))) (by decide) ?_
  exact thSW (names := ["java/lang/RuntimeException", "java/lang/Exception"]) S G FC FZ hlt (List.mem_of_getElem? (i := 21) rfl) th_137_141 hP hS hl.1 hout hlocks rfl ⟨rfl, by decide⟩ (Nat.le_of_ble_eq_true rfl) ⟨by decide, by decide⟩ (PX1 rfl (by unfold accT; simp only [c_1_0, c_1_1, c_1_2, c_1_3, c_1_4, c_1_5, c_1_6, c_1_7, c_1_8, c_1_9, c_1_10, ↓reduceIte])) dX10_account_166 dX10_account_169 dX10_account_170 dX10_account_173 dX10_account_176

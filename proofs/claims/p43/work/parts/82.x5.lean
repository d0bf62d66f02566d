/-! shares and means (laid by wip/p43/spec_x5.py) -/
theorem th_343_345 : thOK 343 345 "java/lang/ArithmeticException" ["java/lang/RuntimeException", "java/lang/Exception"] = true := by decide +kernel
theorem ok_yX10_meanTilt : COK RX10 yX10_meanTilt cX10_meanTilt 2 (some .double) 0 := ⟨im_yX10_meanTilt, se_RX10_yX10_meanTilt, in_RX10, co_yX10_meanTilt, ⟨rfl, by decide +kernel, by decide +kernel, by decide +kernel⟩, by decide⟩
set_option maxHeartbeats 1000000 in
set_option maxRecDepth 100000 in
theorem c_X10_meanTilt (l : Launch) {D : va_G} {ct : Nat → ClassId} {ek ad : Nat → Nat} {N0 : Nat} {X : va_W} {F : State → Prop} (σ : Mem) (n : Nat) (mb : Nat) (hO : HOK σ 1 n mb) (hj : ∃ j, j ≤ 240 ∧ sumR (σ (1 + 1 + 1)) 0 n = nI j - nI 120) (cs : Nat → Nat) (hF : ∀ U, F U → FX ek cs N0 U) (hY : ∀ U, F U → FY U) (hlt : l.stackTraces = false) : MXd l yX10_meanTilt cX10_meanTilt 2 6 1 D ct ek ad N0 X F [.ref (ad 0)] σ (fun r τ => τ = σ ∧ mtT n = 0 ∧ r = mtV n (sumR (σ (1 + 1 + 1)) 0 n)) (PXd ["java/lang/ArithmeticException"] (mtT n) (fun τ => τ = σ)) := by
  refine ms0x (own := RX10) (by decide) rfl (Nat.le_of_ble_eq_true rfl) (fun p e s m args below meth c S hr hlocks hout G hP hS ls hl => ?_)
  have hx := S.1
  have hb := S.2.1
  replace hl : lv_has ls 2 [(0, .ref (ad 0))] := hl
  have FC := hF s G.2.2.2.2.2
  have FZ := hY s G.2.2.2.2.2
  have hn := hO.1
  have hn6 := hO.2.1
  have hB0 := hO.2.2.1
  have hm := hB0.1
  have hm6 := hB0.2.1
  refine lv_aload_n hx hb dX10_meanTilt_0 rfl (lv_at hl 0 rfl) ?_
  refine gf S G hP 0 0 (by decide) oX rfl inX10 (by decide) fl_RX10_10 rfl rfl dX10_meanTilt_1 ?_
  refine gfN S G hP 1 0 (isHl0 isH1) (oH isH1) rfl inX5 (by decide) nw_RX10_107 rfl rfl dX10_meanTilt_4 ?_
  refine gfN S G hP (1 + 1) 7 (isPl0 (isPH isH1)) (oP (isPH isH1)) rfl inX8 (by decide) nw_RX10_218 rfl rfl dX10_meanTilt_7 ?_
  refine lv_tope (y := nI n) hn ?_
  refine lv_istore_n (lv' := [(1, .int (nI n)), (0, .ref (ad 0))]) hx hb dX10_meanTilt_10 rfl hl (by decide) rfl (fun ls hl => ?_)
  refine lv_iload_n hx hb dX10_meanTilt_11 rfl (lv_at hl 0 rfl) ?_
  refine lv_if_ne (tgt := 25) hx hb dX10_meanTilt_12 (by decide) (fun c_12 => ?_) (fun c_12 => ?_)
  · have h0 : ¬ n = 0 := fun z => c_12 (by rw [z]; exact nI_0)
    refine lv_aload_n hx hb dX10_meanTilt_25 rfl (lv_at hl 1 rfl) ?_
    refine gf S G hP 0 0 (by decide) oX rfl inX10 (by decide) fl_RX10_10 rfl rfl dX10_meanTilt_26 ?_
    refine gfN S G hP 1 0 (isHl0 isH1) (oH isH1) rfl inX5 (by decide) nw_RX10_107 rfl rfl dX10_meanTilt_29 ?_
    refine cVie (As := []) S G (1 + 1) (c_X8_tiltSum l (D := D) (ct := ct) (ek := ek) (ad := ad) (N0 := N0) (X := X) (F := F) σ (1 + 1) (isPH isH1) n hn (by omega)) ok_yX8_tiltSum ml_RX10_346 (isPl0 (isPH isH1)) (oP (isPH isH1)) rfl hP hS hl.1 rfl (by decide) rfl rfl (Nat.le_of_ble_eq_true rfl) ⟨by decide, by decide⟩ dX10_meanTilt_32 (fun H locs hP hS => ?_)
    refine lv_i2d hx hb dX10_meanTilt_35 ?_
    refine lv_iload_n hx hb dX10_meanTilt_36 rfl (lv_at hl 0 rfl) ?_
    refine lv_i2d hx hb dX10_meanTilt_37 ?_
    refine lv_ddiv hx hb dX10_meanTilt_38 (by obtain ⟨j9, hj9, ej9⟩ := hj; rw [ej9]; exact dv_n j9 hj9 n hn6 h0) ?_
    exact eDx S hr hlocks hP hS ⟨by decide, by decide⟩ dX10_meanTilt_39 ⟨rfl, (by unfold mtT; rw [if_neg h0]), (by unfold mtV; rw [if_neg h0])⟩
  · have h0 : n = 0 := (nI_eq (by omega) (by omega)).mp (c_12.trans nI_0.symm)
    exact thS (names := ["java/lang/RuntimeException", "java/lang/Exception"]) S G FC FZ hlt (List.mem_of_getElem? (i := 9) rfl) th_343_345 hP hS hl.1 hout hlocks rfl ⟨rfl, by decide⟩ (Nat.le_of_ble_eq_true rfl) ⟨by decide, by decide⟩ (PX1 rfl (by unfold mtT; rw [if_pos h0])) dX10_meanTilt_15 dX10_meanTilt_18 dX10_meanTilt_19 dX10_meanTilt_21 dX10_meanTilt_24

theorem ok_yX10_plumbShare : COK RX10 yX10_plumbShare cX10_plumbShare 2 (some .float) 0 := ⟨im_yX10_plumbShare, se_RX10_yX10_plumbShare, in_RX10, co_yX10_plumbShare, ⟨rfl, by decide +kernel, by decide +kernel, by decide +kernel⟩, by decide⟩
set_option maxHeartbeats 1000000 in
set_option maxRecDepth 100000 in
theorem c_X10_plumbShare (l : Launch) {D : va_G} {ct : Nat → ClassId} {ek ad : Nat → Nat} {N0 : Nat} {X : va_W} {F : State → Prop} (σ : Mem) (n : Nat) (mb : Nat) (hO : HOK σ 1 n mb) (hj : ∃ j, j ≤ 6 ∧ plmR (σ (1 + 1 + 1)) n = nI j) (cs : Nat → Nat) (hF : ∀ U, F U → FX ek cs N0 U) (hY : ∀ U, F U → FY U) (hlt : l.stackTraces = false) : MXf l yX10_plumbShare cX10_plumbShare 2 6 1 D ct ek ad N0 X F [.ref (ad 0)] σ (fun r τ => τ = σ ∧ mtT n = 0 ∧ r = psV9 n (plmR (σ (1 + 1 + 1)) n)) (PXd ["java/lang/ArithmeticException"] (mtT n) (fun τ => τ = σ)) := by
  refine ms0x (own := RX10) (by decide) rfl (Nat.le_of_ble_eq_true rfl) (fun p e s m args below meth c S hr hlocks hout G hP hS ls hl => ?_)
  have hx := S.1
  have hb := S.2.1
  replace hl : lv_has ls 2 [(0, .ref (ad 0))] := hl
  have FC := hF s G.2.2.2.2.2
  have FZ := hY s G.2.2.2.2.2
  have hn := hO.1
  have hn6 := hO.2.1
  have hB0 := hO.2.2.1
  have hm := hB0.1
  have hm6 := hB0.2.1
  refine lv_aload_n hx hb dX10_plumbShare_0 rfl (lv_at hl 0 rfl) ?_
  refine gf S G hP 0 0 (by decide) oX rfl inX10 (by decide) fl_RX10_10 rfl rfl dX10_plumbShare_1 ?_
  refine gfN S G hP 1 0 (isHl0 isH1) (oH isH1) rfl inX5 (by decide) nw_RX10_107 rfl rfl dX10_plumbShare_4 ?_
  refine gfN S G hP (1 + 1) 7 (isPl0 (isPH isH1)) (oP (isPH isH1)) rfl inX8 (by decide) nw_RX10_218 rfl rfl dX10_plumbShare_7 ?_
  refine lv_tope (y := nI n) hn ?_
  refine lv_istore_n (lv' := [(1, .int (nI n)), (0, .ref (ad 0))]) hx hb dX10_plumbShare_10 rfl hl (by decide) rfl (fun ls hl => ?_)
  refine lv_iload_n hx hb dX10_plumbShare_11 rfl (lv_at hl 0 rfl) ?_
  refine lv_if_ne (tgt := 25) hx hb dX10_plumbShare_12 (by decide) (fun c_12 => ?_) (fun c_12 => ?_)
  · have h0 : ¬ n = 0 := fun z => c_12 (by rw [z]; exact nI_0)
    refine lv_aload_n hx hb dX10_plumbShare_25 rfl (lv_at hl 1 rfl) ?_
    refine gf S G hP 0 0 (by decide) oX rfl inX10 (by decide) fl_RX10_10 rfl rfl dX10_plumbShare_26 ?_
    refine gfN S G hP 1 0 (isHl0 isH1) (oH isH1) rfl inX5 (by decide) nw_RX10_107 rfl rfl dX10_plumbShare_29 ?_
    refine cVie (As := []) S G (1 + 1) (c_X8_plumbCount l (D := D) (ct := ct) (ek := ek) (ad := ad) (N0 := N0) (X := X) (F := F) σ (1 + 1) (isPH isH1) n hn (by omega)) ok_yX8_plumbCount ml_RX10_349 (isPl0 (isPH isH1)) (oP (isPH isH1)) rfl hP hS hl.1 rfl (by decide) rfl rfl (Nat.le_of_ble_eq_true rfl) ⟨by decide, by decide⟩ dX10_plumbShare_32 (fun H locs hP hS => ?_)
    refine lv_i2f hx hb dX10_plumbShare_35 ?_
    refine lv_iload_n hx hb dX10_plumbShare_36 rfl (lv_at hl 0 rfl) ?_
    refine lv_i2f hx hb dX10_plumbShare_37 ?_
    refine lv_fdiv hx hb dX10_plumbShare_38 (by obtain ⟨j9, hj9, ej9⟩ := hj; rw [ej9]; exact (fv_n j9 hj9 n hn6 h0).1) ?_
    exact eFx S hr hlocks hP hS ⟨by decide, by decide⟩ dX10_plumbShare_39 ⟨rfl, (by unfold mtT; rw [if_neg h0]), (by unfold psV9; rw [if_neg h0])⟩
  · have h0 : n = 0 := (nI_eq (by omega) (by omega)).mp (c_12.trans nI_0.symm)
    exact thS (names := ["java/lang/RuntimeException", "java/lang/Exception"]) S G FC FZ hlt (List.mem_of_getElem? (i := 9) rfl) th_343_345 hP hS hl.1 hout hlocks rfl ⟨rfl, by decide⟩ (Nat.le_of_ble_eq_true rfl) ⟨by decide, by decide⟩ (PX1 rfl (by unfold mtT; rw [if_pos h0])) dX10_plumbShare_15 dX10_plumbShare_18 dX10_plumbShare_19 dX10_plumbShare_21 dX10_plumbShare_24

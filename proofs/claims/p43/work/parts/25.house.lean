/-! History and House: the walks (laid by wip/p43/spec_house.py) -/
theorem ok_yX5_copyFrom : COK RX5 yX5_copyFrom cX5_copyFrom 2 none 1 := ⟨im_yX5_copyFrom, se_RX5_yX5_copyFrom, in_RX5, co_yX5_copyFrom, ⟨rfl, by decide +kernel, by decide +kernel, by decide +kernel⟩, by decide⟩
set_option maxHeartbeats 1000000 in
set_option maxRecDepth 100000 in
theorem c_X5_copyFrom (l : Launch) {D : va_G} {ct : Nat → ClassId} {ek ad : Nat → Nat} {N0 : Nat} {X : va_W} {F : State → Prop} (σ : Mem) (ho : Nat) (hho : isH ho) (go : Nat) (hgo : isH go) (hne : ho ≠ go) (hz : ∀ j, j < 6 → vp_nar .boolean (σ (go + 1 + 3) j) = σ (go + 1 + 3) j) : MV l yX5_copyFrom cX5_copyFrom 2 2 D ct ek ad N0 X F [.ref (ad ho), .ref (ad go)] σ (fun τ => CpH τ σ ho go) := by
  refine ms0 (own := RX5) (by decide) rfl (Nat.le_of_ble_eq_true rfl) (fun p e s m args below meth c S hr hlocks hnm G hP hS ls hl => ?_)
  have hx := S.1
  have hb := S.2.1
  replace hl : lv_has ls 2 [(0, .ref (ad ho)), (1, .ref (ad go))] := hl
  have ha := isH_apart hho hgo hne
  refine lv_aload_n hx hb dX5_copyFrom_0 rfl (lv_at hl 0 rfl) ?_
  refine gf S G hP ho 0 (isHl0 hho) (oH hho) rfl inX5 (by decide) fl_RX5_10 rfl rfl dX5_copyFrom_1 ?_
  refine lv_aload_n hx hb dX5_copyFrom_4 rfl (lv_at hl 1 rfl) ?_
  refine gf S G hP go 0 (isHl0 hgo) (oH hgo) rfl inX5 (by decide) fl_RX5_10 rfl rfl dX5_copyFrom_5 ?_
  refine cVv (As := [.ref (ad (go + 1))]) S G (ho + 1) (c_X8_copyFrom l (D := D) (ct := ct) (ek := ek) (ad := ad) (N0 := N0) (X := X) (F := F) σ (ho + 1) (isPH hho) (go + 1) (isPH hgo) (by omega) (by first | assumption | omega | (simp [sg_at]; assumption) | (simp [sg_at]; done))) ok_yX8_copyFrom ml_RX5_23 (isPl0 (isPH hho)) (oP (isPH hho)) rfl hP hS hl.1 rfl (by decide) rfl rfl (Nat.le_of_ble_eq_true rfl) ⟨Nat.zero_le _, Nat.zero_le _⟩ dX5_copyFrom_8 (fun τ_2 H locs hp_r_1 hP hS => ?_)
  refine lv_aload_n hx hb dX5_copyFrom_11 rfl (lv_at hl 0 rfl) ?_
  refine gf S G hP ho 1 (isHl0 hho) (oH hho) rfl inX5 (by decide) fl_RX5_19 rfl rfl dX5_copyFrom_12 ?_
  refine lv_aload_n hx hb dX5_copyFrom_15 rfl (lv_at hl 1 rfl) ?_
  refine gf S G hP go 1 (isHl0 hgo) (oH hgo) rfl inX5 (by decide) fl_RX5_19 rfl rfl dX5_copyFrom_16 ?_
  refine cVv (As := [.ref (ad (go + 15))]) S G (ho + 15) (c_X1_copyFrom l (D := D) (ct := ct) (ek := ek) (ad := ad) (N0 := N0) (X := X) (F := F) τ_2 (ho + 15) (isBH hho) (go + 15) (isBH hgo) (by omega)) ok_yX1_copyFrom ml_RX5_27 (isBl0 (isBH hho)) (oB (isBH hho)) rfl hP hS hl.1 rfl (by decide) rfl rfl (Nat.le_of_ble_eq_true rfl) ⟨Nat.zero_le _, Nat.zero_le _⟩ dX5_copyFrom_19 (fun τ_4 H locs hp_r_3 hP hS => ?_)
  refine lv_aload_n hx hb dX5_copyFrom_22 rfl (lv_at hl 0 rfl) ?_
  refine lv_aload_n hx hb dX5_copyFrom_23 rfl (lv_at hl 1 rfl) ?_
  refine gf S G hP go 2 (isHl0 hgo) (oH hgo) rfl inX5 (by decide) fl_RX5_30 rfl rfl dX5_copyFrom_24 ?_
  refine pf S G hP hS ho 2 (x := τ_4 go 2) tyX5 tyX5_ok nmX5 (isHl0 hho) (oH hho) rfl inX5 (by decide) fl_RX5_30 rfl rfl rfl rfl (Nat.le_of_ble_eq_true rfl) (oH hho) dX5_copyFrom_27 (fun H locs hP hS => ?_)
  refine lv_aload_n hx hb dX5_copyFrom_30 rfl (lv_at hl 0 rfl) ?_
  refine lv_aload_n hx hb dX5_copyFrom_31 rfl (lv_at hl 1 rfl) ?_
  refine gf S G hP go 3 (isHl0 hgo) (oH hgo) rfl inX5 (by decide) fl_RX5_34 rfl rfl dX5_copyFrom_32 ?_
  refine lv_tope (y := τ_4 go 3) (by simp [sg_at]) ?_
  refine pf S G hP hS ho 3 (x := τ_4 go 3) tyX5 tyX5_ok nmX5 (isHl0 hho) (oH hho) rfl inX5 (by decide) fl_RX5_34 rfl rfl rfl rfl (Nat.le_of_ble_eq_true rfl) (oH hho) dX5_copyFrom_35 (fun H locs hP hS => ?_)
  refine lv_aload_n hx hb dX5_copyFrom_38 rfl (lv_at hl 0 rfl) ?_
  refine lv_aload_n hx hb dX5_copyFrom_39 rfl (lv_at hl 1 rfl) ?_
  refine gf S G hP go 4 (isHl0 hgo) (oH hgo) rfl inX5 (by decide) fl_RX5_37 rfl rfl dX5_copyFrom_40 ?_
  refine lv_tope (y := τ_4 go 4) (by simp [sg_at]) ?_
  refine pf S G hP hS ho 4 (x := τ_4 go 4) tyX5 tyX5_ok nmX5 (isHl0 hho) (oH hho) rfl inX5 (by decide) fl_RX5_37 rfl rfl rfl rfl (Nat.le_of_ble_eq_true rfl) (oH hho) dX5_copyFrom_43 (fun H locs hP hS => ?_)
  exact eV S hr hlocks hP hS dX5_copyFrom_46 (CpH_mk ha hp_r_1 hp_r_3)

theorem ok_yX4_keep : COK RX4 yX4_keep cX4_keep 2 none 1 := ⟨im_yX4_keep, se_RX4_yX4_keep, in_RX4, co_yX4_keep, ⟨rfl, by decide +kernel, by decide +kernel, by decide +kernel⟩, by decide⟩
set_option maxHeartbeats 1000000 in
set_option maxRecDepth 100000 in
theorem c_X4_keep (l : Launch) {D : va_G} {ct : Nat → ClassId} {ek ad : Nat → Nat} {N0 : Nat} {X : va_W} {F : State → Prop} (σ : Mem) (ho : Nat) (hho : isH ho) (j : Nat) (hj : σ 77 1 = nI j) (hj8 : j < 8) (k9 : Nat) (hk9 : σ 77 2 = nI k9) (hk8 : k9 ≤ 8) (hne : ho < 79) (hz : ∀ j, j < 6 → vp_nar .boolean (σ (ho + 1 + 3) j) = σ (ho + 1 + 3) j) : MV l yX4_keep cX4_keep 2 3 D ct ek ad N0 X F [.ref (ad 77), .ref (ad ho)] σ (fun τ => ∃ ρ, CpH ρ σ (79 + 20 * j) ho ∧ τ = sg (sg ρ 77 1 (nI ((j + 1) % 8))) 77 2 (nI (min (k9 + 1) 8))) := by
  refine ms0 (own := RX4) (by decide) rfl (Nat.le_of_ble_eq_true rfl) (fun p e s m args below meth c S hr hlocks hnm G hP hS ls hl => ?_)
  have hx := S.1
  have hb := S.2.1
  replace hl : lv_has ls 2 [(0, .ref (ad 77)), (1, .ref (ad ho))] := hl
  refine lv_aload_n hx hb dX4_keep_0 rfl (lv_at hl 0 rfl) ?_
  refine gf S G hP 77 0 (by decide) oHI rfl inX4 (by decide) fl_RX4_11 rfl rfl dX4_keep_1 ?_
  refine lv_aload_n hx hb dX4_keep_4 rfl (lv_at hl 0 rfl) ?_
  refine gf S G hP 77 1 (by decide) oHI rfl inX4 (by decide) fl_RX4_16 rfl rfl dX4_keep_5 ?_
  refine rld S G hP 78 j (by decide) (gHI _) (t0 := 4) rfl hj (by omega) (by decide) (if_pos (by omega)) dX4_keep_8 ?_
  refine lv_aload_n hx hb dX4_keep_9 rfl (lv_at hl 1 rfl) ?_
  refine cVv (As := [.ref (ad ho)]) S G (79 + 20 * j) (c_X5_copyFrom l (D := D) (ct := ct) (ek := ek) (ad := ad) (N0 := N0) (X := X) (F := F) σ (79 + 20 * j) (isHh (by omega)) ho hho (by omega) (by first | assumption | omega | (simp [sg_at]; assumption) | (simp [sg_at]; done))) ok_yX5_copyFrom ml_RX4_20 (isHl0 (isHh (by omega))) (oH (isHh (by omega))) rfl hP hS hl.1 rfl (by decide) rfl rfl (Nat.le_of_ble_eq_true rfl) ⟨Nat.zero_le _, Nat.zero_le _⟩ dX4_keep_10 (fun τ_2 H locs hp_r_1 hP hS => ?_)
  have hq77 := hp_r_1.1 77 (by omega)
  refine lv_aload_n hx hb dX4_keep_13 rfl (lv_at hl 0 rfl) ?_
  refine lv_aload_n hx hb dX4_keep_14 rfl (lv_at hl 0 rfl) ?_
  refine gf S G hP 77 1 (by decide) oHI rfl inX4 (by decide) fl_RX4_16 rfl rfl dX4_keep_15 ?_
  refine lv_iconst (v := 1) hx hb dX4_keep_18 (by decide) ?_
  refine nadd hx hb j 1 dX4_keep_19 (by rw [hq77]; exact hj) (by decide) ?_
  refine lv_bipush (v := 8) hx hb dX4_keep_20 (by decide) ?_
  refine nrem hx hb (j + 1) 8 dX4_keep_22 rfl (by decide) (by omega) (by omega) (by omega) ?_
  refine pf S G hP hS 77 1 (x := nI ((j + 1) % 8)) tyX4 tyX4_ok nmX4 (by decide) oHI rfl inX4 (by decide) fl_RX4_16 rfl rfl rfl rfl (Nat.le_of_ble_eq_true rfl) oHI dX4_keep_23 (fun H locs hP hS => ?_)
  refine lv_aload_n hx hb dX4_keep_26 rfl (lv_at hl 0 rfl) ?_
  refine lv_aload_n hx hb dX4_keep_27 rfl (lv_at hl 0 rfl) ?_
  refine gf S G hP 77 2 (by decide) oHI rfl inX4 (by decide) fl_RX4_24 rfl rfl dX4_keep_28 ?_
  refine lv_iconst (v := 1) hx hb dX4_keep_31 (by decide) ?_
  refine nadd hx hb k9 1 dX4_keep_32 (by simp [sg_at]; rw [hq77]; exact hk9) (by decide) ?_
  refine lv_bipush (v := 8) hx hb dX4_keep_33 (by decide) ?_
  refine rmin S rfl (by decide) hl.1 ml_RX4_27 (Nat.le_of_ble_eq_true rfl) ⟨Nat.zero_le _, Nat.zero_le _⟩ dX4_keep_35 ?_
  refine lv_tope (y := nI (min (k9 + 1) 8)) (mnI_min (b := 8) ⟨by omega, by decide⟩) ?_
  refine pf S G hP hS 77 2 (x := nI (min (k9 + 1) 8)) tyX4 tyX4_ok nmX4 (by decide) oHI rfl inX4 (by decide) fl_RX4_24 rfl rfl rfl rfl (Nat.le_of_ble_eq_true rfl) oHI dX4_keep_38 (fun H locs hP hS => ?_)
  exact eV S hr hlocks hP hS dX4_keep_41 ⟨_, hp_r_1, rfl⟩

theorem ok_yX4_giveBack : COK RX4 yX4_giveBack cX4_giveBack 2 none 1 := ⟨im_yX4_giveBack, se_RX4_yX4_giveBack, in_RX4, co_yX4_giveBack, ⟨rfl, by decide +kernel, by decide +kernel, by decide +kernel⟩, by decide⟩
set_option maxHeartbeats 1000000 in
set_option maxRecDepth 100000 in
theorem c_X4_giveBack (l : Launch) {D : va_G} {ct : Nat → ClassId} {ek ad : Nat → Nat} {N0 : Nat} {X : va_W} {F : State → Prop} (σ : Mem) (ho : Nat) (hho : isH ho) (j : Nat) (hj : σ 77 1 = nI j) (hj8 : j < 8) (k9 : Nat) (hk9 : σ 77 2 = nI (k9 + 1)) (hk8 : k9 < 8) (hne : ho < 79) (hz : ∀ i, i < 6 → vp_nar .boolean (σ (79 + 20 * ((j + 8 - 1) % 8) + 1 + 3) i) = σ (79 + 20 * ((j + 8 - 1) % 8) + 1 + 3) i) : MV l yX4_giveBack cX4_giveBack 2 3 D ct ek ad N0 X F [.ref (ad 77), .ref (ad ho)] σ (fun τ => ∃ ρ, CpH ρ (sg σ 77 1 (nI ((j + 8 - 1) % 8))) ho (79 + 20 * ((j + 8 - 1) % 8)) ∧ τ = sg ρ 77 2 (nI k9)) := by
  refine ms0 (own := RX4) (by decide) rfl (Nat.le_of_ble_eq_true rfl) (fun p e s m args below meth c S hr hlocks hnm G hP hS ls hl => ?_)
  have hx := S.1
  have hb := S.2.1
  replace hl : lv_has ls 2 [(0, .ref (ad 77)), (1, .ref (ad ho))] := hl
  refine lv_aload_n hx hb dX4_giveBack_0 rfl (lv_at hl 0 rfl) ?_
  refine lv_aload_n hx hb dX4_giveBack_1 rfl (lv_at hl 0 rfl) ?_
  refine gf S G hP 77 1 (by decide) oHI rfl inX4 (by decide) fl_RX4_16 rfl rfl dX4_giveBack_2 ?_
  refine lv_bipush (v := 8) hx hb dX4_giveBack_5 (by decide) ?_
  refine nadd hx hb j 8 dX4_giveBack_7 hj (by decide) ?_
  refine lv_iconst (v := 1) hx hb dX4_giveBack_8 (by decide) ?_
  refine nsub hx hb (j + 8) 1 dX4_giveBack_9 rfl (by decide) (by omega) ?_
  refine lv_bipush (v := 8) hx hb dX4_giveBack_10 (by decide) ?_
  refine nrem hx hb ((j + 8) - 1) 8 dX4_giveBack_12 rfl (by decide) (by omega) (by omega) (by omega) ?_
  refine pf S G hP hS 77 1 (x := nI (((j + 8) - 1) % 8)) tyX4 tyX4_ok nmX4 (by decide) oHI rfl inX4 (by decide) fl_RX4_16 rfl rfl rfl rfl (Nat.le_of_ble_eq_true rfl) oHI dX4_giveBack_13 (fun H locs hP hS => ?_)
  refine lv_aload_n hx hb dX4_giveBack_16 rfl (lv_at hl 1 rfl) ?_
  refine lv_aload_n hx hb dX4_giveBack_17 rfl (lv_at hl 0 rfl) ?_
  refine gf S G hP 77 0 (by decide) oHI rfl inX4 (by decide) fl_RX4_11 rfl rfl dX4_giveBack_18 ?_
  refine lv_aload_n hx hb dX4_giveBack_21 rfl (lv_at hl 0 rfl) ?_
  refine gf S G hP 77 1 (by decide) oHI rfl inX4 (by decide) fl_RX4_16 rfl rfl dX4_giveBack_22 ?_
  refine rld S G hP 78 ((j + 8 - 1) % 8) (by decide) (gHI _) (t0 := 4) rfl (by simp [sg_at]) (by omega) (by decide) (if_pos (by omega)) dX4_giveBack_25 ?_
  refine cVv (As := [.ref (ad (79 + 20 * ((j + 8 - 1) % 8)))]) S G ho (c_X5_copyFrom l (D := D) (ct := ct) (ek := ek) (ad := ad) (N0 := N0) (X := X) (F := F) (sg σ 77 1 (nI (((j + 8) - 1) % 8))) ho hho (79 + 20 * ((j + 8 - 1) % 8)) (isHh (by omega)) (by omega) (fun i hi => by rw [sg_n (by omega)]; exact hz i hi)) ok_yX5_copyFrom ml_RX4_20 (isHl0 hho) (oH hho) rfl hP hS hl.1 rfl (by decide) rfl rfl (Nat.le_of_ble_eq_true rfl) ⟨Nat.zero_le _, Nat.zero_le _⟩ dX4_giveBack_26 (fun τ_2 H locs hp_r_1 hP hS => ?_)
  have hq77 := hp_r_1.1 77 (by have := isH_lo hho hne; omega)
  refine lv_aload_n hx hb dX4_giveBack_29 rfl (lv_at hl 0 rfl) ?_
  refine lv_dup hx hb dX4_giveBack_30 rfl ?_
  refine gf S G hP 77 2 (by decide) oHI rfl inX4 (by decide) fl_RX4_24 rfl rfl dX4_giveBack_31 ?_
  refine lv_iconst (v := 1) hx hb dX4_giveBack_34 (by decide) ?_
  refine nsub hx hb (k9 + 1) 1 dX4_giveBack_35 (by rw [hq77]; simp [sg_at, hk9]) (by decide) (by omega) ?_
  refine pf S G hP hS 77 2 (x := nI ((k9 + 1) - 1)) tyX4 tyX4_ok nmX4 (by decide) oHI rfl inX4 (by decide) fl_RX4_24 rfl rfl rfl rfl (Nat.le_of_ble_eq_true rfl) oHI dX4_giveBack_36 (fun H locs hP hS => ?_)
  exact eV S hr hlocks hP hS dX4_giveBack_39 ⟨_, hp_r_1, rfl⟩

theorem ok_yX4_forget : COK RX4 yX4_forget cX4_forget 1 none 0 := ⟨im_yX4_forget, se_RX4_yX4_forget, in_RX4, co_yX4_forget, ⟨rfl, by decide +kernel, by decide +kernel, by decide +kernel⟩, by decide⟩
set_option maxHeartbeats 1000000 in
set_option maxRecDepth 100000 in
theorem c_X4_forget (l : Launch) {D : va_G} {ct : Nat → ClassId} {ek ad : Nat → Nat} {N0 : Nat} {X : va_W} {F : State → Prop} (σ : Mem) : MV l yX4_forget cX4_forget 1 0 D ct ek ad N0 X F [.ref (ad 77)] σ (fun τ => τ = sg σ 77 2 0) := by
  refine ms0 (own := RX4) (by decide) rfl (Nat.le_of_ble_eq_true rfl) (fun p e s m args below meth c S hr hlocks hnm G hP hS ls hl => ?_)
  have hx := S.1
  have hb := S.2.1
  replace hl : lv_has ls 1 [(0, .ref (ad 77))] := hl
  refine lv_aload_n hx hb dX4_forget_0 rfl (lv_at hl 0 rfl) ?_
  refine lv_iconst (v := 0) hx hb dX4_forget_1 (by decide) ?_
  refine pf S G hP hS 77 2 (x := 0) tyX4 tyX4_ok nmX4 (by decide) oHI rfl inX4 (by decide) fl_RX4_24 rfl rfl rfl rfl (Nat.le_of_ble_eq_true rfl) oHI dX4_forget_2 (fun H locs hP hS => ?_)
  exact eV S hr hlocks hP hS dX4_forget_5 (by first | rfl | (simp []; done) | (simp only [↓reduceIte, if_true, if_false]; done) | grind [])

theorem ok_yX5_admit : COK RX5 yX5_admit cX5_admit 4 none 2 := ⟨im_yX5_admit, se_RX5_yX5_admit, in_RX5, co_yX5_admit, ⟨rfl, by decide +kernel, by decide +kernel, by decide +kernel⟩, by decide⟩
set_option maxHeartbeats 1000000 in
set_option maxRecDepth 100000 in
theorem c_X5_admit (l : Launch) {D : va_G} {ct : Nat → ClassId} {ek ad : Nat → Nat} {N0 : Nat} {X : va_W} {F : State → Prop} (σ : Mem) (ho : Nat) (hho : isH ho) (cb : Nat) (hcb : isC cb) (b : Int32) (hb9 : vp_nar .boolean b = b) (n : Nat) (mb : Nat) (hO : HOK σ ho n mb) : MV l yX5_admit cX5_admit 4 1 D ct ek ad N0 X F [.ref (ad ho), .ref (ad cb), .int b] σ (fun τ => τ = admM σ ho n cb b) := by
  refine ms0 (own := RX5) (by decide) rfl (Nat.le_of_ble_eq_true rfl) (fun p e s m args below meth c S hr hlocks hnm G hP hS ls hl => ?_)
  have hx := S.1
  have hb := S.2.1
  replace hl : lv_has ls 4 [(0, .ref (ad ho)), (1, .ref (ad cb)), (2, .int b)] := hl
  have hn := hO.1
  have hn6 := hO.2.1
  have hB := hO.2.2.1
  have hm := hB.1
  have hm6 := hB.2.1
  have hHC := isHC_apart hho hcb
  refine lv_aload_n hx hb dX5_admit_0 rfl (lv_at hl 1 rfl) ?_
  refine gfN S G hP cb 1 (isC_lt hcb) (oC hcb) rfl inX3 (by decide) nw_RX5_81 rfl rfl dX5_admit_1 ?_
  refine lv_istore_n (lv' := [(3, .int (σ cb 1)), (0, .ref (ad ho)), (1, .ref (ad cb)), (2, .int b)]) hx hb dX5_admit_4 rfl hl (by decide) rfl (fun ls hl => ?_)
  refine lv_iload_n hx hb dX5_admit_5 rfl (lv_at hl 0 rfl) ?_
  refine cSie (As := [.int (σ cb 1)]) S G (c_X8_isTilt l (D := D) (ct := ct) (ek := ek) (ad := ad) (N0 := N0) (X := X) (F := F) σ (σ cb 1)) ok_yX8_isTilt ml_RX5_84 hP hS hl.1 rfl (by decide) rfl rfl (Nat.le_of_ble_eq_true rfl) ⟨Nat.zero_le _, Nat.zero_le _⟩ dX5_admit_6 (fun H locs hP hS => ?_)
  refine lv_if_ne (tgt := 21) hx hb dX5_admit_9 (by decide) (fun c_9 => ?_) (fun c_9 => ?_)
  · refine lv_aload_n hx hb dX5_admit_21 rfl (lv_at hl 1 rfl) ?_
    refine gf S G hP ho 0 (isHl0 hho) (oH hho) rfl inX5 (by decide) fl_RX5_10 rfl rfl dX5_admit_22 ?_
    refine cVie (As := []) S G (ho + 1) (c_X8_isFull l (D := D) (ct := ct) (ek := ek) (ad := ad) (N0 := N0) (X := X) (F := F) σ (ho + 1) (isPH hho)) ok_yX8_isFull ml_RX5_92 (isPl0 (isPH hho)) (oP (isPH hho)) rfl hP hS hl.1 rfl (by decide) rfl rfl (Nat.le_of_ble_eq_true rfl) ⟨Nat.zero_le _, Nat.zero_le _⟩ dX5_admit_25 (fun H locs hP hS => ?_)
    refine lv_if_eq (tgt := 41) hx hb dX5_admit_28 (by decide) (fun c_28 => ?_) (fun c_28 => ?_)
    · have hlt := full0 hn hn6 c_28
      have h6 : ¬ n = 6 := by omega
      refine lv_aload_n hx hb dX5_admit_41 rfl (lv_at hl 2 rfl) ?_
      refine lv_aload_n hx hb dX5_admit_42 rfl (lv_at hl 1 rfl) ?_
      refine gf S G hP ho 0 (isHl0 hho) (oH hho) rfl inX5 (by decide) fl_RX5_10 rfl rfl dX5_admit_43 ?_
      refine lv_iload_n hx hb dX5_admit_46 rfl (lv_at hl 0 rfl) ?_
      refine lv_iload_n hx hb dX5_admit_47 rfl (lv_at hl 3 rfl) ?_
      refine cVie (As := [.int (σ cb 1), .int b]) S G (ho + 1) (c_X8_admit l (D := D) (ct := ct) (ek := ek) (ad := ad) (N0 := N0) (X := X) (F := F) σ (ho + 1) (isPH hho) (σ cb 1) b (by first | assumption | omega | (simp [sg_at]; assumption) | (simp [sg_at]; done)) n (by first | assumption | omega | (simp [sg_at]; assumption) | (simp [sg_at]; done)) hlt) ok_yX8_admit ml_RX5_96 (isPl0 (isPH hho)) (oP (isPH hho)) rfl hP hS hl.1 rfl (by decide) rfl rfl (Nat.le_of_ble_eq_true rfl) ⟨Nat.zero_le _, Nat.zero_le _⟩ dX5_admit_48 (fun H locs hP hS => ?_)
      refine pfN S G hP hS cb 4 (x := nI n) tyX3 tyX3_ok nmX3 (isC_lt hcb) (oC hcb) rfl inX3 (by decide) nw_RX5_99 rfl rfl rfl rfl (Nat.le_of_ble_eq_true rfl) (oC hcb) dX5_admit_51 (fun H locs hP hS => ?_)
      exact eV S hr hlocks hP hS dX5_admit_54 (by first | (simp only [admM, refM, c_9, c_28, h6, ↓reduceIte, if_true, if_false, eq_self]; done) | rfl | (simp [admM, refM, c_9, c_28, h6]; done) | grind [admM, refM])
    · have h6 : n = 6 := full1 hn hn6 c_28
      refine lv_aload_n hx hb dX5_admit_31 rfl (lv_at hl 2 rfl) ?_
      refine lv_iconst (v := 2) hx hb dX5_admit_32 (by decide) ?_
      refine lv_bipush (v := 6) hx hb dX5_admit_33 (by decide) ?_
      refine cVve (As := [.int 2, .int 6]) S G cb (c_X3_refuse l (D := D) (ct := ct) (ek := ek) (ad := ad) (N0 := N0) (X := X) (F := F) σ cb hcb 2 6) ok_yX3_refuse ml_RX5_88 (isC_lt hcb) (oC hcb) rfl hP hS hl.1 rfl (by decide) rfl rfl (Nat.le_of_ble_eq_true rfl) ⟨Nat.zero_le _, Nat.zero_le _⟩ dX5_admit_35 (fun H locs hP hS => ?_)
      refine lv_goto (tgt := 54) hx hb dX5_admit_38 (by decide) ?_
      exact eV S hr hlocks hP hS dX5_admit_54 (by first | (simp only [admM, refM, c_9, c_28, h6, ↓reduceIte, if_true, if_false, eq_self]; done) | rfl | (simp [admM, refM, c_9, c_28, h6]; done) | grind [admM, refM])
  · refine lv_aload_n hx hb dX5_admit_12 rfl (lv_at hl 2 rfl) ?_
    refine lv_iconst (v := 1) hx hb dX5_admit_13 (by decide) ?_
    refine lv_iconst (v := 0) hx hb dX5_admit_14 (by decide) ?_
    refine cVve (As := [.int 1, .int 0]) S G cb (c_X3_refuse l (D := D) (ct := ct) (ek := ek) (ad := ad) (N0 := N0) (X := X) (F := F) σ cb hcb 1 0) ok_yX3_refuse ml_RX5_88 (isC_lt hcb) (oC hcb) rfl hP hS hl.1 rfl (by decide) rfl rfl (Nat.le_of_ble_eq_true rfl) ⟨Nat.zero_le _, Nat.zero_le _⟩ dX5_admit_15 (fun H locs hP hS => ?_)
    refine lv_goto (tgt := 54) hx hb dX5_admit_18 (by decide) ?_
    exact eV S hr hlocks hP hS dX5_admit_54 (by first | (simp only [admM, refM, c_9, ↓reduceIte, if_true, if_false, eq_self]; done) | rfl | (simp [admM, refM, c_9]; done) | grind [admM, refM])

theorem ok_yX5_befriend : COK RX5 yX5_befriend cX5_befriend 5 none 1 := ⟨im_yX5_befriend, se_RX5_yX5_befriend, in_RX5, co_yX5_befriend, ⟨rfl, by decide +kernel, by decide +kernel, by decide +kernel⟩, by decide⟩
set_option maxHeartbeats 1000000 in
set_option maxRecDepth 100000 in
theorem c_X5_befriend (l : Launch) {D : va_G} {ct : Nat → ClassId} {ek ad : Nat → Nat} {N0 : Nat} {X : va_W} {F : State → Prop} (σ : Mem) (ho : Nat) (hho : isH ho) (cb : Nat) (hcb : isC cb) (n : Nat) (mb : Nat) (hO : HOK σ ho n mb) : MV l yX5_befriend cX5_befriend 5 1 D ct ek ad N0 X F [.ref (ad ho), .ref (ad cb)] σ (fun τ => τ = friM σ ho cb) := by
  refine ms0 (own := RX5) (by decide) rfl (Nat.le_of_ble_eq_true rfl) (fun p e s m args below meth c S hr hlocks hnm G hP hS ls hl => ?_)
  have hx := S.1
  have hb := S.2.1
  replace hl : lv_has ls 5 [(0, .ref (ad ho)), (1, .ref (ad cb))] := hl
  have hn := hO.1
  have hn6 := hO.2.1
  have hB := hO.2.2.1
  have hm := hB.1
  have hm6 := hB.2.1
  have hHC := isHC_apart hho hcb
  refine lv_aload_n hx hb dX5_befriend_0 rfl (lv_at hl 1 rfl) ?_
  refine gfN S G hP cb 1 (isC_lt hcb) (oC hcb) rfl inX3 (by decide) nw_RX5_81 rfl rfl dX5_befriend_1 ?_
  refine lv_istore_n (lv' := [(2, .int (σ cb 1)), (0, .ref (ad ho)), (1, .ref (ad cb))]) hx hb dX5_befriend_4 rfl hl (by decide) rfl (fun ls hl => ?_)
  refine lv_aload_n hx hb dX5_befriend_5 rfl (lv_at hl 2 rfl) ?_
  refine gfN S G hP cb 2 (isC_lt hcb) (oC hcb) rfl inX3 (by decide) nw_RX5_102 rfl rfl dX5_befriend_6 ?_
  refine lv_istore_n (lv' := [(3, .int (σ cb 2)), (2, .int (σ cb 1)), (0, .ref (ad ho)), (1, .ref (ad cb))]) hx hb dX5_befriend_9 rfl hl (by decide) rfl (fun ls hl => ?_)
  refine lv_aload_n hx hb dX5_befriend_10 rfl (lv_at hl 3 rfl) ?_
  refine gfN S G hP cb 3 (isC_lt hcb) (oC hcb) rfl inX3 (by decide) nw_RX5_105 rfl rfl dX5_befriend_11 ?_
  refine lv_istore (lv' := [(4, .int (σ cb 3)), (3, .int (σ cb 2)), (2, .int (σ cb 1)), (0, .ref (ad ho)), (1, .ref (ad cb))]) hx hb dX5_befriend_14 hl (by decide) rfl (fun ls hl => ?_)
  refine lv_aload_n hx hb dX5_befriend_16 rfl (lv_at hl 3 rfl) ?_
  refine gf S G hP ho 0 (isHl0 hho) (oH hho) rfl inX5 (by decide) fl_RX5_10 rfl rfl dX5_befriend_17 ?_
  refine lv_iload_n hx hb dX5_befriend_20 rfl (lv_at hl 2 rfl) ?_
  refine cVie (As := [.int (σ cb 1)]) S G (ho + 1) (c_X8_holds l (D := D) (ct := ct) (ek := ek) (ad := ad) (N0 := N0) (X := X) (F := F) σ (ho + 1) (isPH hho) (σ cb 1)) ok_yX8_holds ml_RX5_108 (isPl0 (isPH hho)) (oP (isPH hho)) rfl hP hS hl.1 rfl (by decide) rfl rfl (Nat.le_of_ble_eq_true rfl) ⟨Nat.zero_le _, Nat.zero_le _⟩ dX5_befriend_21 (fun H locs hP hS => ?_)
  refine lv_if_eq (tgt := 38) hx hb dX5_befriend_24 (by decide) (fun c_24 => ?_) (fun c_24 => ?_)
  · refine lv_aload_n hx hb dX5_befriend_38 rfl (lv_at hl 4 rfl) ?_
    refine lv_iconst (v := 3) hx hb dX5_befriend_39 (by decide) ?_
    refine lv_aload_n hx hb dX5_befriend_40 rfl (lv_at hl 3 rfl) ?_
    refine gf S G hP ho 0 (isHl0 hho) (oH hho) rfl inX5 (by decide) fl_RX5_10 rfl rfl dX5_befriend_41 ?_
    refine gfN S G hP (ho + 1) 7 (isPl0 (isPH hho)) (oP (isPH hho)) rfl inX8 (by decide) nw_RX5_111 rfl rfl dX5_befriend_44 ?_
    refine cVve (As := [.int 3, .int (σ (ho + 1) 7)]) S G cb (c_X3_refuse l (D := D) (ct := ct) (ek := ek) (ad := ad) (N0 := N0) (X := X) (F := F) σ cb hcb 3 (σ (ho + 1) 7)) ok_yX3_refuse ml_RX5_88 (isC_lt hcb) (oC hcb) rfl hP hS hl.1 rfl (by decide) rfl rfl (Nat.le_of_ble_eq_true rfl) ⟨Nat.zero_le _, Nat.zero_le _⟩ dX5_befriend_47 (fun H locs hP hS => ?_)
    refine lv_goto (tgt := 125) hx hb dX5_befriend_50 (by decide) ?_
    exact eV S hr hlocks hP hS dX5_befriend_125 (by first | (simp only [friM, refM, c_24, ↓reduceIte, if_true, if_false, eq_self]; done) | rfl | (simp [friM, refM, c_24]; done) | grind [friM, refM])
  · refine lv_aload_n hx hb dX5_befriend_27 rfl (lv_at hl 3 rfl) ?_
    refine gf S G hP ho 0 (isHl0 hho) (oH hho) rfl inX5 (by decide) fl_RX5_10 rfl rfl dX5_befriend_28 ?_
    refine lv_iload_n hx hb dX5_befriend_31 rfl (lv_at hl 1 rfl) ?_
    refine cVie (As := [.int (σ cb 2)]) S G (ho + 1) (c_X8_holds l (D := D) (ct := ct) (ek := ek) (ad := ad) (N0 := N0) (X := X) (F := F) σ (ho + 1) (isPH hho) (σ cb 2)) ok_yX8_holds ml_RX5_108 (isPl0 (isPH hho)) (oP (isPH hho)) rfl hP hS hl.1 rfl (by decide) rfl rfl (Nat.le_of_ble_eq_true rfl) ⟨Nat.zero_le _, Nat.zero_le _⟩ dX5_befriend_32 (fun H locs hP hS => ?_)
    refine lv_if_ne (tgt := 53) hx hb dX5_befriend_35 (by decide) (fun c_35 => ?_) (fun c_35 => ?_)
    · refine lv_iload_n hx hb dX5_befriend_53 rfl (lv_at hl 2 rfl) ?_
      refine lv_iload_n hx hb dX5_befriend_54 rfl (lv_at hl 1 rfl) ?_
      refine lv_icmp_ne (tgt := 67) hx hb dX5_befriend_55 (by decide) (fun c_55 => ?_) (fun c_55 => ?_)
      · refine lv_iload hx hb dX5_befriend_67 (lv_at hl 0 rfl) ?_
        refine cSie (As := [.int (σ cb 3)]) S G (c_X8_isWeight l (D := D) (ct := ct) (ek := ek) (ad := ad) (N0 := N0) (X := X) (F := F) σ (σ cb 3)) ok_yX8_isWeight ml_RX5_114 hP hS hl.1 rfl (by decide) rfl rfl (Nat.le_of_ble_eq_true rfl) ⟨Nat.zero_le _, Nat.zero_le _⟩ dX5_befriend_69 (fun H locs hP hS => ?_)
        refine lv_if_ne (tgt := 84) hx hb dX5_befriend_72 (by decide) (fun c_72 => ?_) (fun c_72 => ?_)
        · obtain ⟨h1, h1l⟩ := holdN c_24 hn (by omega)
          obtain ⟨h2, h2l⟩ := holdN c_35 hn (by omega)
          refine lv_aload_n hx hb dX5_befriend_84 rfl (lv_at hl 3 rfl) ?_
          refine gf S G hP ho 0 (isHl0 hho) (oH hho) rfl inX5 (by decide) fl_RX5_10 rfl rfl dX5_befriend_85 ?_
          refine gfN S G hP (ho + 1) 5 (isPl0 (isPH hho)) (oP (isPH hho)) rfl inX8 (by decide) nw_RX5_117 rfl rfl dX5_befriend_88 ?_
          refine lv_iload_n hx hb dX5_befriend_91 rfl (lv_at hl 2 rfl) ?_
          refine lv_tope (y := nI (tN (σ cb 1))) h1 ?_
          refine gld S G hP ((ho + 1) + 6) (tN (σ cb 1)) (isPl (isPH hho) (by decide)) ((gP6 (isPH hho)) _) rfl (by omega) (by decide) (if_pos (by omega)) dX5_befriend_92 ?_
          refine lv_iload_n hx hb dX5_befriend_93 rfl (lv_at hl 1 rfl) ?_
          refine lv_tope (y := nI (tN (σ cb 2))) h2 ?_
          refine ald S G hP ((ho + 1) + 7 + (tN (σ cb 1))) (tN (σ cb 2)) (isPlw (isPH hho) (by omega)) ((aPw (isPH hho) (by omega)) _) rfl (by omega) (by decide) dX5_befriend_94 ?_
          refine lv_iload hx hb dX5_befriend_95 (lv_at hl 0 rfl) ?_
          refine lv_icmp_ne (tgt := 110) hx hb dX5_befriend_97 (by decide) (fun c_97 => ?_) (fun c_97 => ?_)
          · refine lv_aload_n hx hb dX5_befriend_110 rfl (lv_at hl 4 rfl) ?_
            refine lv_aload_n hx hb dX5_befriend_111 rfl (lv_at hl 3 rfl) ?_
            refine gf S G hP ho 0 (isHl0 hho) (oH hho) rfl inX5 (by decide) fl_RX5_10 rfl rfl dX5_befriend_112 ?_
            refine lv_iload_n hx hb dX5_befriend_115 rfl (lv_at hl 2 rfl) ?_
            refine lv_tope (y := nI (tN (σ cb 1))) h1 ?_
            refine lv_iload_n hx hb dX5_befriend_116 rfl (lv_at hl 1 rfl) ?_
            refine lv_tope (y := nI (tN (σ cb 2))) h2 ?_
            refine lv_iload hx hb dX5_befriend_117 (lv_at hl 0 rfl) ?_
            refine cVie (As := [.int (nI (tN (σ cb 1))), .int (nI (tN (σ cb 2))), .int (σ cb 3)]) S G (ho + 1) (c_X8_setWeight l (D := D) (ct := ct) (ek := ek) (ad := ad) (N0 := N0) (X := X) (F := F) σ (ho + 1) (isPH hho) (tN (σ cb 1)) (by omega) (tN (σ cb 2)) (by omega) (σ cb 3)) ok_yX8_setWeight ml_RX5_121 (isPl0 (isPH hho)) (oP (isPH hho)) rfl hP hS hl.1 rfl (by decide) rfl rfl (Nat.le_of_ble_eq_true rfl) ⟨Nat.zero_le _, Nat.zero_le _⟩ dX5_befriend_119 (fun H locs hP hS => ?_)
            refine pfN S G hP hS cb 4 (x := σ ((ho + 1) + 7 + (tN (σ cb 1))) (tN (σ cb 2))) tyX3 tyX3_ok nmX3 (isC_lt hcb) (oC hcb) rfl inX3 (by decide) nw_RX5_99 rfl rfl rfl rfl (Nat.le_of_ble_eq_true rfl) (oC hcb) dX5_befriend_122 (fun H locs hP hS => ?_)
            exact eV S hr hlocks hP hS dX5_befriend_125 (by first | (simp only [friM, refM, c_24, c_35, c_55, c_72, c_97, ↓reduceIte, if_true, if_false, eq_self]; done) | rfl | (simp [friM, refM, c_24, c_35, c_55, c_72, c_97]; done) | grind [friM, refM])
          · refine lv_aload_n hx hb dX5_befriend_100 rfl (lv_at hl 4 rfl) ?_
            refine lv_iconst (v := 5) hx hb dX5_befriend_101 (by decide) ?_
            refine lv_iload hx hb dX5_befriend_102 (lv_at hl 0 rfl) ?_
            refine cVve (As := [.int 5, .int (σ cb 3)]) S G cb (c_X3_refuse l (D := D) (ct := ct) (ek := ek) (ad := ad) (N0 := N0) (X := X) (F := F) σ cb hcb 5 (σ cb 3)) ok_yX3_refuse ml_RX5_88 (isC_lt hcb) (oC hcb) rfl hP hS hl.1 rfl (by decide) rfl rfl (Nat.le_of_ble_eq_true rfl) ⟨Nat.zero_le _, Nat.zero_le _⟩ dX5_befriend_104 (fun H locs hP hS => ?_)
            refine lv_goto (tgt := 125) hx hb dX5_befriend_107 (by decide) ?_
            exact eV S hr hlocks hP hS dX5_befriend_125 (by first | (simp only [friM, refM, c_24, c_35, c_55, c_72, c_97, ↓reduceIte, if_true, if_false, eq_self]; done) | rfl | (simp [friM, refM, c_24, c_35, c_55, c_72, c_97]; done) | grind [friM, refM])
        · refine lv_aload_n hx hb dX5_befriend_75 rfl (lv_at hl 4 rfl) ?_
          refine lv_iconst (v := 1) hx hb dX5_befriend_76 (by decide) ?_
          refine lv_iconst (v := 0) hx hb dX5_befriend_77 (by decide) ?_
          refine cVve (As := [.int 1, .int 0]) S G cb (c_X3_refuse l (D := D) (ct := ct) (ek := ek) (ad := ad) (N0 := N0) (X := X) (F := F) σ cb hcb 1 0) ok_yX3_refuse ml_RX5_88 (isC_lt hcb) (oC hcb) rfl hP hS hl.1 rfl (by decide) rfl rfl (Nat.le_of_ble_eq_true rfl) ⟨Nat.zero_le _, Nat.zero_le _⟩ dX5_befriend_78 (fun H locs hP hS => ?_)
          refine lv_goto (tgt := 125) hx hb dX5_befriend_81 (by decide) ?_
          exact eV S hr hlocks hP hS dX5_befriend_125 (by first | (simp only [friM, refM, c_24, c_35, c_55, c_72, ↓reduceIte, if_true, if_false, eq_self]; done) | rfl | (simp [friM, refM, c_24, c_35, c_55, c_72]; done) | grind [friM, refM])
      · refine lv_aload_n hx hb dX5_befriend_58 rfl (lv_at hl 4 rfl) ?_
        refine lv_iconst (v := 4) hx hb dX5_befriend_59 (by decide) ?_
        refine lv_iload_n hx hb dX5_befriend_60 rfl (lv_at hl 2 rfl) ?_
        refine cVve (As := [.int 4, .int (σ cb 1)]) S G cb (c_X3_refuse l (D := D) (ct := ct) (ek := ek) (ad := ad) (N0 := N0) (X := X) (F := F) σ cb hcb 4 (σ cb 1)) ok_yX3_refuse ml_RX5_88 (isC_lt hcb) (oC hcb) rfl hP hS hl.1 rfl (by decide) rfl rfl (Nat.le_of_ble_eq_true rfl) ⟨Nat.zero_le _, Nat.zero_le _⟩ dX5_befriend_61 (fun H locs hP hS => ?_)
        refine lv_goto (tgt := 125) hx hb dX5_befriend_64 (by decide) ?_
        exact eV S hr hlocks hP hS dX5_befriend_125 (by first | (simp only [friM, refM, c_24, c_35, c_55, ↓reduceIte, if_true, if_false, eq_self]; done) | rfl | (simp [friM, refM, c_24, c_35, c_55]; done) | grind [friM, refM])
    · refine lv_aload_n hx hb dX5_befriend_38 rfl (lv_at hl 4 rfl) ?_
      refine lv_iconst (v := 3) hx hb dX5_befriend_39 (by decide) ?_
      refine lv_aload_n hx hb dX5_befriend_40 rfl (lv_at hl 3 rfl) ?_
      refine gf S G hP ho 0 (isHl0 hho) (oH hho) rfl inX5 (by decide) fl_RX5_10 rfl rfl dX5_befriend_41 ?_
      refine gfN S G hP (ho + 1) 7 (isPl0 (isPH hho)) (oP (isPH hho)) rfl inX8 (by decide) nw_RX5_111 rfl rfl dX5_befriend_44 ?_
      refine cVve (As := [.int 3, .int (σ (ho + 1) 7)]) S G cb (c_X3_refuse l (D := D) (ct := ct) (ek := ek) (ad := ad) (N0 := N0) (X := X) (F := F) σ cb hcb 3 (σ (ho + 1) 7)) ok_yX3_refuse ml_RX5_88 (isC_lt hcb) (oC hcb) rfl hP hS hl.1 rfl (by decide) rfl rfl (Nat.le_of_ble_eq_true rfl) ⟨Nat.zero_le _, Nat.zero_le _⟩ dX5_befriend_47 (fun H locs hP hS => ?_)
      refine lv_goto (tgt := 125) hx hb dX5_befriend_50 (by decide) ?_
      exact eV S hr hlocks hP hS dX5_befriend_125 (by first | (simp only [friM, refM, c_24, c_35, ↓reduceIte, if_true, if_false, eq_self]; done) | rfl | (simp [friM, refM, c_24, c_35]; done) | grind [friM, refM])

theorem ok_yX5_passRound : COK RX5 yX5_passRound cX5_passRound 2 none 1 := ⟨im_yX5_passRound, se_RX5_yX5_passRound, in_RX5, co_yX5_passRound, ⟨rfl, by decide +kernel, by decide +kernel, by decide +kernel⟩, by decide⟩
set_option maxHeartbeats 1000000 in
set_option maxRecDepth 100000 in
theorem c_X5_passRound (l : Launch) {D : va_G} {ct : Nat → ClassId} {ek ad : Nat → Nat} {N0 : Nat} {X : va_W} {F : State → Prop} (σ : Mem) (ho : Nat) (hho : isH ho) (cb : Nat) (hcb : isC cb) (n : Nat) (mb : Nat) (hO : HOK σ ho n mb) : MV l yX5_passRound cX5_passRound 2 5 D ct ek ad N0 X F [.ref (ad ho), .ref (ad cb)] σ (fun τ => τ = rndM σ ho n mb cb) := by
  refine ms0 (own := RX5) (by decide) rfl (Nat.le_of_ble_eq_true rfl) (fun p e s m args below meth c S hr hlocks hnm G hP hS ls hl => ?_)
  have hx := S.1
  have hb := S.2.1
  replace hl : lv_has ls 2 [(0, .ref (ad ho)), (1, .ref (ad cb))] := hl
  have hn := hO.1
  have hn6 := hO.2.1
  have hB := hO.2.2.1
  have hm := hB.1
  have hm6 := hB.2.1
  have hHC := isHC_apart hho hcb
  refine lv_aload_n hx hb dX5_passRound_0 rfl (lv_at hl 0 rfl) ?_
  refine gf S G hP ho 0 (isHl0 hho) (oH hho) rfl inX5 (by decide) fl_RX5_10 rfl rfl dX5_passRound_1 ?_
  refine gfN S G hP (ho + 1) 7 (isPl0 (isPH hho)) (oP (isPH hho)) rfl inX8 (by decide) nw_RX5_111 rfl rfl dX5_passRound_4 ?_
  refine lv_if_ne (tgt := 21) hx hb dX5_passRound_7 (by decide) (fun c_7 => ?_) (fun c_7 => ?_)
  · have h0 : ¬ n = 0 := fun h => c_7 (by rw [hn, h]; exact nI_0)
    refine lv_aload_n hx hb dX5_passRound_21 rfl (lv_at hl 1 rfl) ?_
    refine lv_aload_n hx hb dX5_passRound_22 rfl (lv_at hl 0 rfl) ?_
    refine gf S G hP ho 0 (isHl0 hho) (oH hho) rfl inX5 (by decide) fl_RX5_10 rfl rfl dX5_passRound_23 ?_
    refine cVie (As := []) S G (ho + 1) (c_X8_passRound l (D := D) (ct := ct) (ek := ek) (ad := ad) (N0 := N0) (X := X) (F := F) σ (ho + 1) (isPH hho) n (by first | assumption | omega | (simp [sg_at]; assumption) | (simp [sg_at]; done)) (by omega)) ok_yX8_passRound ml_RX5_125 (isPl0 (isPH hho)) (oP (isPH hho)) rfl hP hS hl.1 rfl (by decide) rfl rfl (Nat.le_of_ble_eq_true rfl) ⟨Nat.zero_le _, Nat.zero_le _⟩ dX5_passRound_26 (fun H locs hP hS => ?_)
    refine pfN S G hP hS cb 4 (x := cntB (fun q => abI (moveV σ (ho + 1) n q)) n) tyX3 tyX3_ok nmX3 (isC_lt hcb) (oC hcb) rfl inX3 (by decide) nw_RX5_99 rfl rfl rfl rfl (Nat.le_of_ble_eq_true rfl) (oC hcb) dX5_passRound_29 (fun H locs hP hS => ?_)
    replace hP : wP D ct ek ad X (rnd1 σ ho n cb) H := hP
    refine lv_aload_n hx hb dX5_passRound_32 rfl (lv_at hl 0 rfl) ?_
    refine lv_dup hx hb dX5_passRound_33 rfl ?_
    refine gf S G hP ho 3 (isHl0 hho) (oH hho) rfl inX5 (by decide) fl_RX5_34 rfl rfl dX5_passRound_34 ?_
    refine lv_tope (y := σ ho 3) (by rw [rnd1_c (by omega)]) ?_
    refine lv_aload_n hx hb dX5_passRound_37 rfl (lv_at hl 0 rfl) ?_
    refine gf S G hP ho 1 (isHl0 hho) (oH hho) rfl inX5 (by decide) fl_RX5_19 rfl rfl dX5_passRound_38 ?_
    refine lv_aload_n hx hb dX5_passRound_41 rfl (lv_at hl 0 rfl) ?_
    refine gf S G hP ho 0 (isHl0 hho) (oH hho) rfl inX5 (by decide) fl_RX5_10 rfl rfl dX5_passRound_42 ?_
    refine cVie (As := [.ref (ad (ho + 1))]) S G (ho + 15) (c_X1_creakAll l (D := D) (ct := ct) (ek := ek) (ad := ad) (N0 := N0) (X := X) (F := F) (rnd1 σ ho n cb) (ho + 15) (isBH hho) (ho + 1) (isPH hho) mb (BOK_c (fun c h1 h2 => rnd1_c (by omega)) hB)) ok_yX1_creakAll ml_RX5_127 (isBl0 (isBH hho)) (oB (isBH hho)) rfl hP hS hl.1 rfl (by decide) rfl rfl (Nat.le_of_ble_eq_true rfl) ⟨Nat.zero_le _, Nat.zero_le _⟩ dX5_passRound_45 (fun H locs hP hS => ?_)
    refine lv_iadd hx hb dX5_passRound_48 ?_
    refine pf S G hP hS ho 3 (x := (σ ho 3) + (cntB (overB (rnd1 σ ho n cb) (ho + 15) (ho + 1)) mb)) tyX5 tyX5_ok nmX5 (isHl0 hho) (oH hho) rfl inX5 (by decide) fl_RX5_34 rfl rfl rfl rfl (Nat.le_of_ble_eq_true rfl) (oH hho) dX5_passRound_49 (fun H locs hP hS => ?_)
    replace hP : wP D ct ek ad X (rnd2 σ ho n mb cb) H := hP
    refine lv_aload_n hx hb dX5_passRound_52 rfl (lv_at hl 0 rfl) ?_
    refine lv_dup hx hb dX5_passRound_53 rfl ?_
    refine gf S G hP ho 4 (isHl0 hho) (oH hho) rfl inX5 (by decide) fl_RX5_37 rfl rfl dX5_passRound_54 ?_
    refine lv_tope (y := σ ho 4) (by unfold rnd2; rw [sg_at, if_neg (by omega), crk_ap, if_neg (by omega), rnd1_c (by omega)]) ?_
    refine lv_aload_n hx hb dX5_passRound_57 rfl (lv_at hl 0 rfl) ?_
    refine gf S G hP ho 1 (isHl0 hho) (oH hho) rfl inX5 (by decide) fl_RX5_19 rfl rfl dX5_passRound_58 ?_
    refine cVie (As := []) S G (ho + 15) (c_X1_breakAll l (D := D) (ct := ct) (ek := ek) (ad := ad) (N0 := N0) (X := X) (F := F) (rnd2 σ ho n mb cb) (ho + 15) (isBH hho) mb (by unfold rnd2; rw [sg_at, if_neg (by omega), crk_ap, if_neg (by omega), rnd1_c (by omega)]; exact hm) (by omega)) ok_yX1_breakAll ml_RX5_131 (isBl0 (isBH hho)) (oB (isBH hho)) rfl hP hS hl.1 rfl (by decide) rfl rfl (Nat.le_of_ble_eq_true rfl) ⟨Nat.zero_le _, Nat.zero_le _⟩ dX5_passRound_61 (fun H locs hP hS => ?_)
    refine lv_iadd hx hb dX5_passRound_64 ?_
    refine pf S G hP hS ho 4 (x := (σ ho 4) + (nI (mb - (brk (ho + 15) mb (rnd2 σ ho n mb cb) mb).2))) tyX5 tyX5_ok nmX5 (isHl0 hho) (oH hho) rfl inX5 (by decide) fl_RX5_37 rfl rfl rfl rfl (Nat.le_of_ble_eq_true rfl) (oH hho) dX5_passRound_65 (fun H locs hP hS => ?_)
    refine lv_aload_n hx hb dX5_passRound_68 rfl (lv_at hl 0 rfl) ?_
    refine lv_dup hx hb dX5_passRound_69 rfl ?_
    refine gf S G hP ho 2 (isHl0 hho) (oH hho) rfl inX5 (by decide) fl_RX5_30 rfl rfl dX5_passRound_70 ?_
    refine lv_tope (y := σ ho 2) (by rw [sg_at, if_neg (by omega), brk_ap (by omega)]; unfold rnd2; rw [sg_at, if_neg (by omega), crk_ap, if_neg (by omega), rnd1_c (by omega)]) ?_
    refine lv_iconst (v := 1) hx hb dX5_passRound_73 (by decide) ?_
    refine lv_iadd hx hb dX5_passRound_74 ?_
    refine pf S G hP hS ho 2 (x := (σ ho 2) + 1) tyX5 tyX5_ok nmX5 (isHl0 hho) (oH hho) rfl inX5 (by decide) fl_RX5_30 rfl rfl rfl rfl (Nat.le_of_ble_eq_true rfl) (oH hho) dX5_passRound_75 (fun H locs hP hS => ?_)
    exact eV S hr hlocks hP hS dX5_passRound_78 (by first | (simp only [rndM, refM, c_7, h0, ↓reduceIte, if_true, if_false, eq_self]; done) | rfl | (simp [rndM, refM, c_7, h0]; done) | grind [rndM, refM])
  · have h0 : n = 0 := by rw [hn] at c_7; exact (nI_eq (by omega) (by omega)).mp c_7
    refine lv_aload_n hx hb dX5_passRound_10 rfl (lv_at hl 1 rfl) ?_
    refine lv_bipush (v := 10) hx hb dX5_passRound_11 (by decide) ?_
    refine lv_aload_n hx hb dX5_passRound_13 rfl (lv_at hl 0 rfl) ?_
    refine gf S G hP ho 2 (isHl0 hho) (oH hho) rfl inX5 (by decide) fl_RX5_30 rfl rfl dX5_passRound_14 ?_
    refine cVve (As := [.int 10, .int (σ ho 2)]) S G cb (c_X3_refuse l (D := D) (ct := ct) (ek := ek) (ad := ad) (N0 := N0) (X := X) (F := F) σ cb hcb 10 (σ ho 2)) ok_yX3_refuse ml_RX5_88 (isC_lt hcb) (oC hcb) rfl hP hS hl.1 rfl (by decide) rfl rfl (Nat.le_of_ble_eq_true rfl) ⟨Nat.zero_le _, Nat.zero_le _⟩ dX5_passRound_17 (fun H locs hP hS => ?_)
    exact eV S hr hlocks hP hS dX5_passRound_20 (by first | (simp only [rndM, refM, c_7, h0, ↓reduceIte, if_true, if_false, eq_self]; done) | rfl | (simp [rndM, refM, c_7, h0]; done) | grind [rndM, refM])

theorem ok_yX5_tell : COK RX5 yX5_tell cX5_tell 4 none 1 := ⟨im_yX5_tell, se_RX5_yX5_tell, in_RX5, co_yX5_tell, ⟨rfl, by decide +kernel, by decide +kernel, by decide +kernel⟩, by decide⟩
set_option maxHeartbeats 1000000 in
set_option maxRecDepth 100000 in
theorem c_X5_tell (l : Launch) {D : va_G} {ct : Nat → ClassId} {ek ad : Nat → Nat} {N0 : Nat} {X : va_W} {F : State → Prop} (σ : Mem) (ho : Nat) (hho : isH ho) (cb : Nat) (hcb : isC cb) (n : Nat) (mb : Nat) (hO : HOK σ ho n mb) : MV l yX5_tell cX5_tell 4 3 D ct ek ad N0 X F [.ref (ad ho), .ref (ad cb)] σ (fun τ => τ = telM σ ho cb) := by
  refine ms0 (own := RX5) (by decide) rfl (Nat.le_of_ble_eq_true rfl) (fun p e s m args below meth c S hr hlocks hnm G hP hS ls hl => ?_)
  have hx := S.1
  have hb := S.2.1
  replace hl : lv_has ls 4 [(0, .ref (ad ho)), (1, .ref (ad cb))] := hl
  have hn := hO.1
  have hn6 := hO.2.1
  have hB := hO.2.2.1
  have hm := hB.1
  have hm6 := hB.2.1
  have hHC := isHC_apart hho hcb
  refine lv_aload_n hx hb dX5_tell_0 rfl (lv_at hl 1 rfl) ?_
  refine gfN S G hP cb 1 (isC_lt hcb) (oC hcb) rfl inX3 (by decide) nw_RX5_81 rfl rfl dX5_tell_1 ?_
  refine lv_istore_n (lv' := [(2, .int (σ cb 1)), (0, .ref (ad ho)), (1, .ref (ad cb))]) hx hb dX5_tell_4 rfl hl (by decide) rfl (fun ls hl => ?_)
  refine lv_aload_n hx hb dX5_tell_5 rfl (lv_at hl 2 rfl) ?_
  refine gfN S G hP cb 2 (isC_lt hcb) (oC hcb) rfl inX3 (by decide) nw_RX5_102 rfl rfl dX5_tell_6 ?_
  refine lv_istore_n (lv' := [(3, .int (σ cb 2)), (2, .int (σ cb 1)), (0, .ref (ad ho)), (1, .ref (ad cb))]) hx hb dX5_tell_9 rfl hl (by decide) rfl (fun ls hl => ?_)
  refine lv_aload_n hx hb dX5_tell_10 rfl (lv_at hl 2 rfl) ?_
  refine gf S G hP ho 0 (isHl0 hho) (oH hho) rfl inX5 (by decide) fl_RX5_10 rfl rfl dX5_tell_11 ?_
  refine lv_iload_n hx hb dX5_tell_14 rfl (lv_at hl 1 rfl) ?_
  refine cVie (As := [.int (σ cb 1)]) S G (ho + 1) (c_X8_holds l (D := D) (ct := ct) (ek := ek) (ad := ad) (N0 := N0) (X := X) (F := F) σ (ho + 1) (isPH hho) (σ cb 1)) ok_yX8_holds ml_RX5_108 (isPl0 (isPH hho)) (oP (isPH hho)) rfl hP hS hl.1 rfl (by decide) rfl rfl (Nat.le_of_ble_eq_true rfl) ⟨Nat.zero_le _, Nat.zero_le _⟩ dX5_tell_15 (fun H locs hP hS => ?_)
  refine lv_if_ne (tgt := 36) hx hb dX5_tell_18 (by decide) (fun c_18 => ?_) (fun c_18 => ?_)
  · refine lv_iload_n hx hb dX5_tell_36 rfl (lv_at hl 0 rfl) ?_
    refine cSie (As := [.int (σ cb 2)]) S G (c_X8_isStrength l (D := D) (ct := ct) (ek := ek) (ad := ad) (N0 := N0) (X := X) (F := F) σ (σ cb 2)) ok_yX8_isStrength ml_RX5_134 hP hS hl.1 rfl (by decide) rfl rfl (Nat.le_of_ble_eq_true rfl) ⟨Nat.zero_le _, Nat.zero_le _⟩ dX5_tell_37 (fun H locs hP hS => ?_)
    refine lv_if_ne (tgt := 52) hx hb dX5_tell_40 (by decide) (fun c_40 => ?_) (fun c_40 => ?_)
    · obtain ⟨h1, h1l⟩ := holdN c_18 hn (by omega)
      refine lv_aload_n hx hb dX5_tell_52 rfl (lv_at hl 2 rfl) ?_
      refine gf S G hP ho 0 (isHl0 hho) (oH hho) rfl inX5 (by decide) fl_RX5_10 rfl rfl dX5_tell_53 ?_
      refine gfN S G hP (ho + 1) 0 (isPl0 (isPH hho)) (oP (isPH hho)) rfl inX8 (by decide) nw_RX5_137 rfl rfl dX5_tell_56 ?_
      refine lv_iload_n hx hb dX5_tell_59 rfl (lv_at hl 1 rfl) ?_
      refine lv_tope (y := nI (tN (σ cb 1))) h1 ?_
      refine ald S G hP ((ho + 1) + 1) (tN (σ cb 1)) (isPl (isPH hho) (by decide)) ((aP1 (isPH hho)) _) rfl (by omega) (by decide) dX5_tell_60 ?_
      refine lv_if_ne (tgt := 82) hx hb dX5_tell_61 (by decide) (fun c_61 => ?_) (fun c_61 => ?_)
      · refine lv_aload_n hx hb dX5_tell_82 rfl (lv_at hl 2 rfl) ?_
        refine gf S G hP ho 0 (isHl0 hho) (oH hho) rfl inX5 (by decide) fl_RX5_10 rfl rfl dX5_tell_83 ?_
        refine lv_iload_n hx hb dX5_tell_86 rfl (lv_at hl 1 rfl) ?_
        refine lv_tope (y := nI (tN (σ cb 1))) h1 ?_
        refine lv_iload_n hx hb dX5_tell_87 rfl (lv_at hl 0 rfl) ?_
        refine cVie (As := [.int (nI (tN (σ cb 1))), .int (σ cb 2)]) S G (ho + 1) (c_X8_forceOn l (D := D) (ct := ct) (ek := ek) (ad := ad) (N0 := N0) (X := X) (F := F) σ (ho + 1) (isPH hho) (tN (σ cb 1)) (by omega) (σ cb 2)) ok_yX8_forceOn ml_RX5_143 (isPl0 (isPH hho)) (oP (isPH hho)) rfl hP hS hl.1 rfl (by decide) rfl rfl (Nat.le_of_ble_eq_true rfl) ⟨Nat.zero_le _, Nat.zero_le _⟩ dX5_tell_88 (fun H locs hP hS => ?_)
        refine lv_if_ne (tgt := 104) hx hb dX5_tell_91 (by decide) (fun c_91 => ?_) (fun c_91 => ?_)
        · refine lv_aload_n hx hb dX5_tell_104 rfl (lv_at hl 3 rfl) ?_
          refine lv_aload_n hx hb dX5_tell_105 rfl (lv_at hl 2 rfl) ?_
          refine gf S G hP ho 0 (isHl0 hho) (oH hho) rfl inX5 (by decide) fl_RX5_10 rfl rfl dX5_tell_106 ?_
          refine lv_iload_n hx hb dX5_tell_109 rfl (lv_at hl 1 rfl) ?_
          refine lv_tope (y := nI (tN (σ cb 1))) h1 ?_
          refine lv_iload_n hx hb dX5_tell_110 rfl (lv_at hl 0 rfl) ?_
          refine cVie (As := [.int (nI (tN (σ cb 1))), .int (σ cb 2)]) S G (ho + 1) (c_X8_tell l (D := D) (ct := ct) (ek := ek) (ad := ad) (N0 := N0) (X := X) (F := F) σ (ho + 1) (isPH hho) (tN (σ cb 1)) (by omega) (σ cb 2)) ok_yX8_tell ml_RX5_147 (isPl0 (isPH hho)) (oP (isPH hho)) rfl hP hS hl.1 rfl (by decide) rfl rfl (Nat.le_of_ble_eq_true rfl) ⟨Nat.zero_le _, Nat.zero_le _⟩ dX5_tell_111 (fun H locs hP hS => ?_)
          refine pfN S G hP hS cb 4 (x := tellV (σ ((ho + 1) + 1) (tN (σ cb 1))) (σ ((ho + 1) + 2) (tN (σ cb 1))) (σ cb 2)) tyX3 tyX3_ok nmX3 (isC_lt hcb) (oC hcb) rfl inX3 (by decide) nw_RX5_99 rfl rfl rfl rfl (Nat.le_of_ble_eq_true rfl) (oC hcb) dX5_tell_114 (fun H locs hP hS => ?_)
          exact eV S hr hlocks hP hS dX5_tell_117 (by first | (simp only [telM, refM, c_18, c_40, c_61, c_91, ↓reduceIte, if_true, if_false, eq_self]; done) | rfl | (simp [telM, refM, c_18, c_40, c_61, c_91]; done) | grind [telM, refM])
        · refine lv_aload_n hx hb dX5_tell_94 rfl (lv_at hl 3 rfl) ?_
          refine lv_bipush (v := 7) hx hb dX5_tell_95 (by decide) ?_
          refine lv_iload_n hx hb dX5_tell_97 rfl (lv_at hl 0 rfl) ?_
          refine cVve (As := [.int 7, .int (σ cb 2)]) S G cb (c_X3_refuse l (D := D) (ct := ct) (ek := ek) (ad := ad) (N0 := N0) (X := X) (F := F) σ cb hcb 7 (σ cb 2)) ok_yX3_refuse ml_RX5_88 (isC_lt hcb) (oC hcb) rfl hP hS hl.1 rfl (by decide) rfl rfl (Nat.le_of_ble_eq_true rfl) ⟨Nat.zero_le _, Nat.zero_le _⟩ dX5_tell_98 (fun H locs hP hS => ?_)
          refine lv_goto (tgt := 117) hx hb dX5_tell_101 (by decide) ?_
          exact eV S hr hlocks hP hS dX5_tell_117 (by first | (simp only [telM, refM, c_18, c_40, c_61, c_91, ↓reduceIte, if_true, if_false, eq_self]; done) | rfl | (simp [telM, refM, c_18, c_40, c_61, c_91]; done) | grind [telM, refM])
      · refine lv_aload_n hx hb dX5_tell_64 rfl (lv_at hl 3 rfl) ?_
        refine lv_bipush (v := 6) hx hb dX5_tell_65 (by decide) ?_
        refine lv_aload_n hx hb dX5_tell_67 rfl (lv_at hl 2 rfl) ?_
        refine gf S G hP ho 0 (isHl0 hho) (oH hho) rfl inX5 (by decide) fl_RX5_10 rfl rfl dX5_tell_68 ?_
        refine gfN S G hP (ho + 1) 1 (isPl0 (isPH hho)) (oP (isPH hho)) rfl inX8 (by decide) nw_RX5_140 rfl rfl dX5_tell_71 ?_
        refine lv_iload_n hx hb dX5_tell_74 rfl (lv_at hl 1 rfl) ?_
        refine lv_tope (y := nI (tN (σ cb 1))) h1 ?_
        refine ald S G hP ((ho + 1) + 2) (tN (σ cb 1)) (isPl (isPH hho) (by decide)) ((aP2 (isPH hho)) _) rfl (by omega) (by decide) dX5_tell_75 ?_
        refine cVve (As := [.int 6, .int (σ ((ho + 1) + 2) (tN (σ cb 1)))]) S G cb (c_X3_refuse l (D := D) (ct := ct) (ek := ek) (ad := ad) (N0 := N0) (X := X) (F := F) σ cb hcb 6 (σ ((ho + 1) + 2) (tN (σ cb 1)))) ok_yX3_refuse ml_RX5_88 (isC_lt hcb) (oC hcb) rfl hP hS hl.1 rfl (by decide) rfl rfl (Nat.le_of_ble_eq_true rfl) ⟨Nat.zero_le _, Nat.zero_le _⟩ dX5_tell_76 (fun H locs hP hS => ?_)
        refine lv_goto (tgt := 117) hx hb dX5_tell_79 (by decide) ?_
        exact eV S hr hlocks hP hS dX5_tell_117 (by first | (simp only [telM, refM, c_18, c_40, c_61, ↓reduceIte, if_true, if_false, eq_self]; done) | rfl | (simp [telM, refM, c_18, c_40, c_61]; done) | grind [telM, refM])
    · refine lv_aload_n hx hb dX5_tell_43 rfl (lv_at hl 3 rfl) ?_
      refine lv_iconst (v := 1) hx hb dX5_tell_44 (by decide) ?_
      refine lv_iconst (v := 0) hx hb dX5_tell_45 (by decide) ?_
      refine cVve (As := [.int 1, .int 0]) S G cb (c_X3_refuse l (D := D) (ct := ct) (ek := ek) (ad := ad) (N0 := N0) (X := X) (F := F) σ cb hcb 1 0) ok_yX3_refuse ml_RX5_88 (isC_lt hcb) (oC hcb) rfl hP hS hl.1 rfl (by decide) rfl rfl (Nat.le_of_ble_eq_true rfl) ⟨Nat.zero_le _, Nat.zero_le _⟩ dX5_tell_46 (fun H locs hP hS => ?_)
      refine lv_goto (tgt := 117) hx hb dX5_tell_49 (by decide) ?_
      exact eV S hr hlocks hP hS dX5_tell_117 (by first | (simp only [telM, refM, c_18, c_40, ↓reduceIte, if_true, if_false, eq_self]; done) | rfl | (simp [telM, refM, c_18, c_40]; done) | grind [telM, refM])
  · refine lv_aload_n hx hb dX5_tell_21 rfl (lv_at hl 3 rfl) ?_
    refine lv_iconst (v := 3) hx hb dX5_tell_22 (by decide) ?_
    refine lv_aload_n hx hb dX5_tell_23 rfl (lv_at hl 2 rfl) ?_
    refine gf S G hP ho 0 (isHl0 hho) (oH hho) rfl inX5 (by decide) fl_RX5_10 rfl rfl dX5_tell_24 ?_
    refine gfN S G hP (ho + 1) 7 (isPl0 (isPH hho)) (oP (isPH hho)) rfl inX8 (by decide) nw_RX5_111 rfl rfl dX5_tell_27 ?_
    refine cVve (As := [.int 3, .int (σ (ho + 1) 7)]) S G cb (c_X3_refuse l (D := D) (ct := ct) (ek := ek) (ad := ad) (N0 := N0) (X := X) (F := F) σ cb hcb 3 (σ (ho + 1) 7)) ok_yX3_refuse ml_RX5_88 (isC_lt hcb) (oC hcb) rfl hP hS hl.1 rfl (by decide) rfl rfl (Nat.le_of_ble_eq_true rfl) ⟨Nat.zero_le _, Nat.zero_le _⟩ dX5_tell_30 (fun H locs hP hS => ?_)
    refine lv_goto (tgt := 117) hx hb dX5_tell_33 (by decide) ?_
    exact eV S hr hlocks hP hS dX5_tell_117 (by first | (simp only [telM, refM, c_18, ↓reduceIte, if_true, if_false, eq_self]; done) | rfl | (simp [telM, refM, c_18]; done) | grind [telM, refM])

theorem ok_yX5_putBeam : COK RX5 yX5_putBeam cX5_putBeam 5 none 1 := ⟨im_yX5_putBeam, se_RX5_yX5_putBeam, in_RX5, co_yX5_putBeam, ⟨rfl, by decide +kernel, by decide +kernel, by decide +kernel⟩, by decide⟩
set_option maxHeartbeats 1000000 in
set_option maxRecDepth 100000 in
theorem c_X5_putBeam (l : Launch) {D : va_G} {ct : Nat → ClassId} {ek ad : Nat → Nat} {N0 : Nat} {X : va_W} {F : State → Prop} (σ : Mem) (ho : Nat) (hho : isH ho) (cb : Nat) (hcb : isC cb) (n : Nat) (mb : Nat) (hO : HOK σ ho n mb) : MV l yX5_putBeam cX5_putBeam 5 2 D ct ek ad N0 X F [.ref (ad ho), .ref (ad cb)] σ (fun τ => τ = putM σ ho mb cb) := by
  refine ms0 (own := RX5) (by decide) rfl (Nat.le_of_ble_eq_true rfl) (fun p e s m args below meth c S hr hlocks hnm G hP hS ls hl => ?_)
  have hx := S.1
  have hb := S.2.1
  replace hl : lv_has ls 5 [(0, .ref (ad ho)), (1, .ref (ad cb))] := hl
  have hn := hO.1
  have hn6 := hO.2.1
  have hB := hO.2.2.1
  have hm := hB.1
  have hm6 := hB.2.1
  have hHC := isHC_apart hho hcb
  refine lv_aload_n hx hb dX5_putBeam_0 rfl (lv_at hl 1 rfl) ?_
  refine gfN S G hP cb 1 (isC_lt hcb) (oC hcb) rfl inX3 (by decide) nw_RX5_81 rfl rfl dX5_putBeam_1 ?_
  refine lv_istore_n (lv' := [(2, .int (σ cb 1)), (0, .ref (ad ho)), (1, .ref (ad cb))]) hx hb dX5_putBeam_4 rfl hl (by decide) rfl (fun ls hl => ?_)
  refine lv_aload_n hx hb dX5_putBeam_5 rfl (lv_at hl 2 rfl) ?_
  refine gfN S G hP cb 2 (isC_lt hcb) (oC hcb) rfl inX3 (by decide) nw_RX5_102 rfl rfl dX5_putBeam_6 ?_
  refine lv_istore_n (lv' := [(3, .int (σ cb 2)), (2, .int (σ cb 1)), (0, .ref (ad ho)), (1, .ref (ad cb))]) hx hb dX5_putBeam_9 rfl hl (by decide) rfl (fun ls hl => ?_)
  refine lv_aload_n hx hb dX5_putBeam_10 rfl (lv_at hl 3 rfl) ?_
  refine gfN S G hP cb 3 (isC_lt hcb) (oC hcb) rfl inX3 (by decide) nw_RX5_105 rfl rfl dX5_putBeam_11 ?_
  refine lv_istore (lv' := [(4, .int (σ cb 3)), (3, .int (σ cb 2)), (2, .int (σ cb 1)), (0, .ref (ad ho)), (1, .ref (ad cb))]) hx hb dX5_putBeam_14 hl (by decide) rfl (fun ls hl => ?_)
  refine lv_aload_n hx hb dX5_putBeam_16 rfl (lv_at hl 3 rfl) ?_
  refine gf S G hP ho 0 (isHl0 hho) (oH hho) rfl inX5 (by decide) fl_RX5_10 rfl rfl dX5_putBeam_17 ?_
  refine lv_iload_n hx hb dX5_putBeam_20 rfl (lv_at hl 2 rfl) ?_
  refine cVie (As := [.int (σ cb 1)]) S G (ho + 1) (c_X8_holds l (D := D) (ct := ct) (ek := ek) (ad := ad) (N0 := N0) (X := X) (F := F) σ (ho + 1) (isPH hho) (σ cb 1)) ok_yX8_holds ml_RX5_108 (isPl0 (isPH hho)) (oP (isPH hho)) rfl hP hS hl.1 rfl (by decide) rfl rfl (Nat.le_of_ble_eq_true rfl) ⟨Nat.zero_le _, Nat.zero_le _⟩ dX5_putBeam_21 (fun H locs hP hS => ?_)
  refine lv_if_eq (tgt := 38) hx hb dX5_putBeam_24 (by decide) (fun c_24 => ?_) (fun c_24 => ?_)
  · refine lv_aload_n hx hb dX5_putBeam_38 rfl (lv_at hl 4 rfl) ?_
    refine lv_iconst (v := 3) hx hb dX5_putBeam_39 (by decide) ?_
    refine lv_aload_n hx hb dX5_putBeam_40 rfl (lv_at hl 3 rfl) ?_
    refine gf S G hP ho 0 (isHl0 hho) (oH hho) rfl inX5 (by decide) fl_RX5_10 rfl rfl dX5_putBeam_41 ?_
    refine gfN S G hP (ho + 1) 7 (isPl0 (isPH hho)) (oP (isPH hho)) rfl inX8 (by decide) nw_RX5_111 rfl rfl dX5_putBeam_44 ?_
    refine cVve (As := [.int 3, .int (σ (ho + 1) 7)]) S G cb (c_X3_refuse l (D := D) (ct := ct) (ek := ek) (ad := ad) (N0 := N0) (X := X) (F := F) σ cb hcb 3 (σ (ho + 1) 7)) ok_yX3_refuse ml_RX5_88 (isC_lt hcb) (oC hcb) rfl hP hS hl.1 rfl (by decide) rfl rfl (Nat.le_of_ble_eq_true rfl) ⟨Nat.zero_le _, Nat.zero_le _⟩ dX5_putBeam_47 (fun H locs hP hS => ?_)
    refine lv_goto (tgt := 149) hx hb dX5_putBeam_50 (by decide) ?_
    exact eV S hr hlocks hP hS dX5_putBeam_149 (by first | (simp only [putM, refM, btwV, c_24, ↓reduceIte, if_true, if_false, eq_self]; done) | rfl | (simp [putM, refM, btwV, c_24]; done) | grind [putM, refM, btwV])
  · refine lv_aload_n hx hb dX5_putBeam_27 rfl (lv_at hl 3 rfl) ?_
    refine gf S G hP ho 0 (isHl0 hho) (oH hho) rfl inX5 (by decide) fl_RX5_10 rfl rfl dX5_putBeam_28 ?_
    refine lv_iload_n hx hb dX5_putBeam_31 rfl (lv_at hl 1 rfl) ?_
    refine cVie (As := [.int (σ cb 2)]) S G (ho + 1) (c_X8_holds l (D := D) (ct := ct) (ek := ek) (ad := ad) (N0 := N0) (X := X) (F := F) σ (ho + 1) (isPH hho) (σ cb 2)) ok_yX8_holds ml_RX5_108 (isPl0 (isPH hho)) (oP (isPH hho)) rfl hP hS hl.1 rfl (by decide) rfl rfl (Nat.le_of_ble_eq_true rfl) ⟨Nat.zero_le _, Nat.zero_le _⟩ dX5_putBeam_32 (fun H locs hP hS => ?_)
    refine lv_if_ne (tgt := 53) hx hb dX5_putBeam_35 (by decide) (fun c_35 => ?_) (fun c_35 => ?_)
    · refine lv_iload_n hx hb dX5_putBeam_53 rfl (lv_at hl 2 rfl) ?_
      refine lv_iload_n hx hb dX5_putBeam_54 rfl (lv_at hl 1 rfl) ?_
      refine lv_icmp_ne (tgt := 67) hx hb dX5_putBeam_55 (by decide) (fun c_55 => ?_) (fun c_55 => ?_)
      · refine lv_iload hx hb dX5_putBeam_67 (lv_at hl 0 rfl) ?_
        refine cSie (As := [.int (σ cb 3)]) S G (c_X1_isLimit l (D := D) (ct := ct) (ek := ek) (ad := ad) (N0 := N0) (X := X) (F := F) σ (σ cb 3)) ok_yX1_isLimit ml_RX5_149 hP hS hl.1 rfl (by decide) rfl rfl (Nat.le_of_ble_eq_true rfl) ⟨Nat.zero_le _, Nat.zero_le _⟩ dX5_putBeam_69 (fun H locs hP hS => ?_)
        refine lv_if_ne (tgt := 84) hx hb dX5_putBeam_72 (by decide) (fun c_72 => ?_) (fun c_72 => ?_)
        · refine lv_aload_n hx hb dX5_putBeam_84 rfl (lv_at hl 3 rfl) ?_
          refine gf S G hP ho 1 (isHl0 hho) (oH hho) rfl inX5 (by decide) fl_RX5_19 rfl rfl dX5_putBeam_85 ?_
          refine lv_iload_n hx hb dX5_putBeam_88 rfl (lv_at hl 2 rfl) ?_
          refine lv_iload_n hx hb dX5_putBeam_89 rfl (lv_at hl 1 rfl) ?_
          refine cVie (As := [.int (σ cb 1), .int (σ cb 2)]) S G (ho + 15) (c_X1_between l (D := D) (ct := ct) (ek := ek) (ad := ad) (N0 := N0) (X := X) (F := F) σ (ho + 15) (isBH hho) (σ cb 1) (σ cb 2) mb (by first | assumption | omega | (simp [sg_at]; assumption) | (simp [sg_at]; done)) (by omega)) ok_yX1_between ml_RX5_152 (isBl0 (isBH hho)) (oB (isBH hho)) rfl hP hS hl.1 rfl (by decide) rfl rfl (Nat.le_of_ble_eq_true rfl) ⟨Nat.zero_le _, Nat.zero_le _⟩ dX5_putBeam_90 (fun H locs hP hS => ?_)
          refine lv_if_lt (tgt := 114) hx hb dX5_putBeam_93 (by decide) (fun c_93 => ?_) (fun c_93 => ?_)
          · have hbt : ¬ 0 ≤ btwV σ ho mb (σ cb 1) (σ cb 2) := Int32.not_le.mpr c_93
            refine lv_aload_n hx hb dX5_putBeam_114 rfl (lv_at hl 3 rfl) ?_
            refine gf S G hP ho 1 (isHl0 hho) (oH hho) rfl inX5 (by decide) fl_RX5_19 rfl rfl dX5_putBeam_115 ?_
            refine cVie (As := []) S G (ho + 15) (c_X1_isFull l (D := D) (ct := ct) (ek := ek) (ad := ad) (N0 := N0) (X := X) (F := F) σ (ho + 15) (isBH hho)) ok_yX1_isFull ml_RX5_155 (isBl0 (isBH hho)) (oB (isBH hho)) rfl hP hS hl.1 rfl (by decide) rfl rfl (Nat.le_of_ble_eq_true rfl) ⟨Nat.zero_le _, Nat.zero_le _⟩ dX5_putBeam_118 (fun H locs hP hS => ?_)
            refine lv_if_eq (tgt := 134) hx hb dX5_putBeam_121 (by decide) (fun c_121 => ?_) (fun c_121 => ?_)
            · have hlt := full0 hm hm6 c_121
              have h6 : ¬ mb = 6 := by omega
              refine lv_aload_n hx hb dX5_putBeam_134 rfl (lv_at hl 4 rfl) ?_
              refine lv_aload_n hx hb dX5_putBeam_135 rfl (lv_at hl 3 rfl) ?_
              refine gf S G hP ho 1 (isHl0 hho) (oH hho) rfl inX5 (by decide) fl_RX5_19 rfl rfl dX5_putBeam_136 ?_
              refine lv_iload_n hx hb dX5_putBeam_139 rfl (lv_at hl 2 rfl) ?_
              refine lv_iload_n hx hb dX5_putBeam_140 rfl (lv_at hl 1 rfl) ?_
              refine lv_iload hx hb dX5_putBeam_141 (lv_at hl 0 rfl) ?_
              refine cVie (As := [.int (σ cb 1), .int (σ cb 2), .int (σ cb 3)]) S G (ho + 15) (c_X1_put l (D := D) (ct := ct) (ek := ek) (ad := ad) (N0 := N0) (X := X) (F := F) σ (ho + 15) (isBH hho) (σ cb 1) (σ cb 2) (σ cb 3) mb (by first | assumption | omega | (simp [sg_at]; assumption) | (simp [sg_at]; done)) hlt) ok_yX1_put ml_RX5_156 (isBl0 (isBH hho)) (oB (isBH hho)) rfl hP hS hl.1 rfl (by decide) rfl rfl (Nat.le_of_ble_eq_true rfl) ⟨Nat.zero_le _, Nat.zero_le _⟩ dX5_putBeam_143 (fun H locs hP hS => ?_)
              refine pfN S G hP hS cb 4 (x := nI mb) tyX3 tyX3_ok nmX3 (isC_lt hcb) (oC hcb) rfl inX3 (by decide) nw_RX5_99 rfl rfl rfl rfl (Nat.le_of_ble_eq_true rfl) (oC hcb) dX5_putBeam_146 (fun H locs hP hS => ?_)
              exact eV S hr hlocks hP hS dX5_putBeam_149 (by first | (simp only [putM, refM, btwV, c_24, c_35, c_55, c_72, c_93, hbt, c_121, h6, ↓reduceIte, if_true, if_false, eq_self]; done) | rfl | (simp [putM, refM, btwV, c_24, c_35, c_55, c_72, c_93, hbt, c_121, h6]; done) | grind [putM, refM, btwV])
            · have h6 : mb = 6 := full1 hm hm6 c_121
              refine lv_aload_n hx hb dX5_putBeam_124 rfl (lv_at hl 4 rfl) ?_
              refine lv_iconst (v := 2) hx hb dX5_putBeam_125 (by decide) ?_
              refine lv_bipush (v := 6) hx hb dX5_putBeam_126 (by decide) ?_
              refine cVve (As := [.int 2, .int 6]) S G cb (c_X3_refuse l (D := D) (ct := ct) (ek := ek) (ad := ad) (N0 := N0) (X := X) (F := F) σ cb hcb 2 6) ok_yX3_refuse ml_RX5_88 (isC_lt hcb) (oC hcb) rfl hP hS hl.1 rfl (by decide) rfl rfl (Nat.le_of_ble_eq_true rfl) ⟨Nat.zero_le _, Nat.zero_le _⟩ dX5_putBeam_128 (fun H locs hP hS => ?_)
              refine lv_goto (tgt := 149) hx hb dX5_putBeam_131 (by decide) ?_
              exact eV S hr hlocks hP hS dX5_putBeam_149 (by first | (simp only [putM, refM, btwV, c_24, c_35, c_55, c_72, c_93, hbt, c_121, h6, ↓reduceIte, if_true, if_false, eq_self]; done) | rfl | (simp [putM, refM, btwV, c_24, c_35, c_55, c_72, c_93, hbt, c_121, h6]; done) | grind [putM, refM, btwV])
          · have hbt : 0 ≤ btwV σ ho mb (σ cb 1) (σ cb 2) := Int32.not_lt.mp c_93
            refine lv_aload_n hx hb dX5_putBeam_96 rfl (lv_at hl 4 rfl) ?_
            refine lv_bipush (v := 9) hx hb dX5_putBeam_97 (by decide) ?_
            refine lv_aload_n hx hb dX5_putBeam_99 rfl (lv_at hl 3 rfl) ?_
            refine gf S G hP ho 1 (isHl0 hho) (oH hho) rfl inX5 (by decide) fl_RX5_19 rfl rfl dX5_putBeam_100 ?_
            refine lv_iload_n hx hb dX5_putBeam_103 rfl (lv_at hl 2 rfl) ?_
            refine lv_iload_n hx hb dX5_putBeam_104 rfl (lv_at hl 1 rfl) ?_
            refine cVie (As := [.int (σ cb 1), .int (σ cb 2)]) S G (ho + 15) (c_X1_between l (D := D) (ct := ct) (ek := ek) (ad := ad) (N0 := N0) (X := X) (F := F) σ (ho + 15) (isBH hho) (σ cb 1) (σ cb 2) mb (by first | assumption | omega | (simp [sg_at]; assumption) | (simp [sg_at]; done)) (by omega)) ok_yX1_between ml_RX5_152 (isBl0 (isBH hho)) (oB (isBH hho)) rfl hP hS hl.1 rfl (by decide) rfl rfl (Nat.le_of_ble_eq_true rfl) ⟨Nat.zero_le _, Nat.zero_le _⟩ dX5_putBeam_105 (fun H locs hP hS => ?_)
            refine cVve (As := [.int 9, .int (srch (bmB σ (ho + 15) (mnI (σ cb 1) (σ cb 2)) (mxI (σ cb 1) (σ cb 2))) 1 mb 0)]) S G cb (c_X3_refuse l (D := D) (ct := ct) (ek := ek) (ad := ad) (N0 := N0) (X := X) (F := F) σ cb hcb 9 (srch (bmB σ (ho + 15) (mnI (σ cb 1) (σ cb 2)) (mxI (σ cb 1) (σ cb 2))) 1 mb 0)) ok_yX3_refuse ml_RX5_88 (isC_lt hcb) (oC hcb) rfl hP hS hl.1 rfl (by decide) rfl rfl (Nat.le_of_ble_eq_true rfl) ⟨Nat.zero_le _, Nat.zero_le _⟩ dX5_putBeam_108 (fun H locs hP hS => ?_)
            refine lv_goto (tgt := 149) hx hb dX5_putBeam_111 (by decide) ?_
            exact eV S hr hlocks hP hS dX5_putBeam_149 (by first | (simp only [putM, refM, btwV, c_24, c_35, c_55, c_72, c_93, hbt, ↓reduceIte, if_true, if_false, eq_self]; done) | rfl | (simp [putM, refM, btwV, c_24, c_35, c_55, c_72, c_93, hbt]; done) | grind [putM, refM, btwV])
        · refine lv_aload_n hx hb dX5_putBeam_75 rfl (lv_at hl 4 rfl) ?_
          refine lv_iconst (v := 1) hx hb dX5_putBeam_76 (by decide) ?_
          refine lv_iconst (v := 0) hx hb dX5_putBeam_77 (by decide) ?_
          refine cVve (As := [.int 1, .int 0]) S G cb (c_X3_refuse l (D := D) (ct := ct) (ek := ek) (ad := ad) (N0 := N0) (X := X) (F := F) σ cb hcb 1 0) ok_yX3_refuse ml_RX5_88 (isC_lt hcb) (oC hcb) rfl hP hS hl.1 rfl (by decide) rfl rfl (Nat.le_of_ble_eq_true rfl) ⟨Nat.zero_le _, Nat.zero_le _⟩ dX5_putBeam_78 (fun H locs hP hS => ?_)
          refine lv_goto (tgt := 149) hx hb dX5_putBeam_81 (by decide) ?_
          exact eV S hr hlocks hP hS dX5_putBeam_149 (by first | (simp only [putM, refM, btwV, c_24, c_35, c_55, c_72, ↓reduceIte, if_true, if_false, eq_self]; done) | rfl | (simp [putM, refM, btwV, c_24, c_35, c_55, c_72]; done) | grind [putM, refM, btwV])
      · refine lv_aload_n hx hb dX5_putBeam_58 rfl (lv_at hl 4 rfl) ?_
        refine lv_iconst (v := 4) hx hb dX5_putBeam_59 (by decide) ?_
        refine lv_iload_n hx hb dX5_putBeam_60 rfl (lv_at hl 2 rfl) ?_
        refine cVve (As := [.int 4, .int (σ cb 1)]) S G cb (c_X3_refuse l (D := D) (ct := ct) (ek := ek) (ad := ad) (N0 := N0) (X := X) (F := F) σ cb hcb 4 (σ cb 1)) ok_yX3_refuse ml_RX5_88 (isC_lt hcb) (oC hcb) rfl hP hS hl.1 rfl (by decide) rfl rfl (Nat.le_of_ble_eq_true rfl) ⟨Nat.zero_le _, Nat.zero_le _⟩ dX5_putBeam_61 (fun H locs hP hS => ?_)
        refine lv_goto (tgt := 149) hx hb dX5_putBeam_64 (by decide) ?_
        exact eV S hr hlocks hP hS dX5_putBeam_149 (by first | (simp only [putM, refM, btwV, c_24, c_35, c_55, ↓reduceIte, if_true, if_false, eq_self]; done) | rfl | (simp [putM, refM, btwV, c_24, c_35, c_55]; done) | grind [putM, refM, btwV])
    · refine lv_aload_n hx hb dX5_putBeam_38 rfl (lv_at hl 4 rfl) ?_
      refine lv_iconst (v := 3) hx hb dX5_putBeam_39 (by decide) ?_
      refine lv_aload_n hx hb dX5_putBeam_40 rfl (lv_at hl 3 rfl) ?_
      refine gf S G hP ho 0 (isHl0 hho) (oH hho) rfl inX5 (by decide) fl_RX5_10 rfl rfl dX5_putBeam_41 ?_
      refine gfN S G hP (ho + 1) 7 (isPl0 (isPH hho)) (oP (isPH hho)) rfl inX8 (by decide) nw_RX5_111 rfl rfl dX5_putBeam_44 ?_
      refine cVve (As := [.int 3, .int (σ (ho + 1) 7)]) S G cb (c_X3_refuse l (D := D) (ct := ct) (ek := ek) (ad := ad) (N0 := N0) (X := X) (F := F) σ cb hcb 3 (σ (ho + 1) 7)) ok_yX3_refuse ml_RX5_88 (isC_lt hcb) (oC hcb) rfl hP hS hl.1 rfl (by decide) rfl rfl (Nat.le_of_ble_eq_true rfl) ⟨Nat.zero_le _, Nat.zero_le _⟩ dX5_putBeam_47 (fun H locs hP hS => ?_)
      refine lv_goto (tgt := 149) hx hb dX5_putBeam_50 (by decide) ?_
      exact eV S hr hlocks hP hS dX5_putBeam_149 (by first | (simp only [putM, refM, btwV, c_24, c_35, ↓reduceIte, if_true, if_false, eq_self]; done) | rfl | (simp [putM, refM, btwV, c_24, c_35]; done) | grind [putM, refM, btwV])

theorem ok_yX5_takeBeam : COK RX5 yX5_takeBeam cX5_takeBeam 3 none 1 := ⟨im_yX5_takeBeam, se_RX5_yX5_takeBeam, in_RX5, co_yX5_takeBeam, ⟨rfl, by decide +kernel, by decide +kernel, by decide +kernel⟩, by decide⟩
set_option maxHeartbeats 1000000 in
set_option maxRecDepth 100000 in
theorem c_X5_takeBeam (l : Launch) {D : va_G} {ct : Nat → ClassId} {ek ad : Nat → Nat} {N0 : Nat} {X : va_W} {F : State → Prop} (σ : Mem) (ho : Nat) (hho : isH ho) (cb : Nat) (hcb : isC cb) (n : Nat) (mb : Nat) (hO : HOK σ ho n mb) : MV l yX5_takeBeam cX5_takeBeam 3 1 D ct ek ad N0 X F [.ref (ad ho), .ref (ad cb)] σ (fun τ => τ = remM σ ho mb cb) := by
  refine ms0 (own := RX5) (by decide) rfl (Nat.le_of_ble_eq_true rfl) (fun p e s m args below meth c S hr hlocks hnm G hP hS ls hl => ?_)
  have hx := S.1
  have hb := S.2.1
  replace hl : lv_has ls 3 [(0, .ref (ad ho)), (1, .ref (ad cb))] := hl
  have hn := hO.1
  have hn6 := hO.2.1
  have hB := hO.2.2.1
  have hm := hB.1
  have hm6 := hB.2.1
  have hHC := isHC_apart hho hcb
  refine lv_aload_n hx hb dX5_takeBeam_0 rfl (lv_at hl 1 rfl) ?_
  refine gfN S G hP cb 1 (isC_lt hcb) (oC hcb) rfl inX3 (by decide) nw_RX5_81 rfl rfl dX5_takeBeam_1 ?_
  refine lv_istore_n (lv' := [(2, .int (σ cb 1)), (0, .ref (ad ho)), (1, .ref (ad cb))]) hx hb dX5_takeBeam_4 rfl hl (by decide) rfl (fun ls hl => ?_)
  refine lv_aload_n hx hb dX5_takeBeam_5 rfl (lv_at hl 1 rfl) ?_
  refine gf S G hP ho 1 (isHl0 hho) (oH hho) rfl inX5 (by decide) fl_RX5_19 rfl rfl dX5_takeBeam_6 ?_
  refine lv_iload_n hx hb dX5_takeBeam_9 rfl (lv_at hl 0 rfl) ?_
  refine cVie (As := [.int (σ cb 1)]) S G (ho + 15) (c_X1_holds l (D := D) (ct := ct) (ek := ek) (ad := ad) (N0 := N0) (X := X) (F := F) σ (ho + 15) (isBH hho) (σ cb 1)) ok_yX1_holds ml_RX5_159 (isBl0 (isBH hho)) (oB (isBH hho)) rfl hP hS hl.1 rfl (by decide) rfl rfl (Nat.le_of_ble_eq_true rfl) ⟨Nat.zero_le _, Nat.zero_le _⟩ dX5_takeBeam_10 (fun H locs hP hS => ?_)
  refine lv_if_ne (tgt := 30) hx hb dX5_takeBeam_13 (by decide) (fun c_13 => ?_) (fun c_13 => ?_)
  · obtain ⟨h1, h1l⟩ := holdN c_13 hm (by omega)
    refine lv_aload_n hx hb dX5_takeBeam_30 rfl (lv_at hl 1 rfl) ?_
    refine gf S G hP ho 1 (isHl0 hho) (oH hho) rfl inX5 (by decide) fl_RX5_19 rfl rfl dX5_takeBeam_31 ?_
    refine lv_iload_n hx hb dX5_takeBeam_34 rfl (lv_at hl 0 rfl) ?_
    refine lv_tope (y := nI (tN (σ cb 1))) h1 ?_
    refine cVve (As := [.int (nI (tN (σ cb 1)))]) S G (ho + 15) (c_X1_takeAway l (D := D) (ct := ct) (ek := ek) (ad := ad) (N0 := N0) (X := X) (F := F) σ (ho + 15) (isBH hho) (tN (σ cb 1)) mb (by first | assumption | omega | (simp [sg_at]; assumption) | (simp [sg_at]; done)) (by omega) (by omega)) ok_yX1_takeAway ml_RX5_161 (isBl0 (isBH hho)) (oB (isBH hho)) rfl hP hS hl.1 rfl (by decide) rfl rfl (Nat.le_of_ble_eq_true rfl) ⟨Nat.zero_le _, Nat.zero_le _⟩ dX5_takeBeam_35 (fun H locs hP hS => ?_)
    refine lv_aload_n hx hb dX5_takeBeam_38 rfl (lv_at hl 2 rfl) ?_
    refine lv_aload_n hx hb dX5_takeBeam_39 rfl (lv_at hl 1 rfl) ?_
    refine gf S G hP ho 1 (isHl0 hho) (oH hho) rfl inX5 (by decide) fl_RX5_19 rfl rfl dX5_takeBeam_40 ?_
    refine gfN S G hP (ho + 15) 4 (isBl0 (isBH hho)) (oB (isBH hho)) rfl inX1 (by decide) nw_RX5_160 rfl rfl dX5_takeBeam_43 ?_
    refine lv_tope (y := nI (mb - 1)) (by unfold takeB; exact sg_ss) ?_
    refine pfN S G hP hS cb 4 (x := nI (mb - 1)) tyX3 tyX3_ok nmX3 (isC_lt hcb) (oC hcb) rfl inX3 (by decide) nw_RX5_99 rfl rfl rfl rfl (Nat.le_of_ble_eq_true rfl) (oC hcb) dX5_takeBeam_46 (fun H locs hP hS => ?_)
    exact eV S hr hlocks hP hS dX5_takeBeam_49 (by first | (simp only [remM, refM, c_13, ↓reduceIte, if_true, if_false, eq_self]; done) | rfl | (simp [remM, refM, c_13]; done) | grind [remM, refM])
  · refine lv_aload_n hx hb dX5_takeBeam_16 rfl (lv_at hl 2 rfl) ?_
    refine lv_bipush (v := 8) hx hb dX5_takeBeam_17 (by decide) ?_
    refine lv_aload_n hx hb dX5_takeBeam_19 rfl (lv_at hl 1 rfl) ?_
    refine gf S G hP ho 1 (isHl0 hho) (oH hho) rfl inX5 (by decide) fl_RX5_19 rfl rfl dX5_takeBeam_20 ?_
    refine gfN S G hP (ho + 15) 4 (isBl0 (isBH hho)) (oB (isBH hho)) rfl inX1 (by decide) nw_RX5_160 rfl rfl dX5_takeBeam_23 ?_
    refine cVve (As := [.int 8, .int (σ (ho + 15) 4)]) S G cb (c_X3_refuse l (D := D) (ct := ct) (ek := ek) (ad := ad) (N0 := N0) (X := X) (F := F) σ cb hcb 8 (σ (ho + 15) 4)) ok_yX3_refuse ml_RX5_88 (isC_lt hcb) (oC hcb) rfl hP hS hl.1 rfl (by decide) rfl rfl (Nat.le_of_ble_eq_true rfl) ⟨Nat.zero_le _, Nat.zero_le _⟩ dX5_takeBeam_26 (fun H locs hP hS => ?_)
    exact eV S hr hlocks hP hS dX5_takeBeam_29 (by first | (simp only [remM, refM, c_13, ↓reduceIte, if_true, if_false, eq_self]; done) | rfl | (simp [remM, refM, c_13]; done) | grind [remM, refM])

theorem ok_yX5_setHabit : COK RX5 yX5_setHabit cX5_setHabit 4 none 1 := ⟨im_yX5_setHabit, se_RX5_yX5_setHabit, in_RX5, co_yX5_setHabit, ⟨rfl, by decide +kernel, by decide +kernel, by decide +kernel⟩, by decide⟩
set_option maxHeartbeats 1000000 in
set_option maxRecDepth 100000 in
theorem c_X5_setHabit (l : Launch) {D : va_G} {ct : Nat → ClassId} {ek ad : Nat → Nat} {N0 : Nat} {X : va_W} {F : State → Prop} (σ : Mem) (ho : Nat) (hho : isH ho) (cb : Nat) (hcb : isC cb) (n : Nat) (mb : Nat) (hO : HOK σ ho n mb) : MV l yX5_setHabit cX5_setHabit 4 1 D ct ek ad N0 X F [.ref (ad ho), .ref (ad cb)] σ (fun τ => τ = habM σ ho cb) := by
  refine ms0 (own := RX5) (by decide) rfl (Nat.le_of_ble_eq_true rfl) (fun p e s m args below meth c S hr hlocks hnm G hP hS ls hl => ?_)
  have hx := S.1
  have hb := S.2.1
  replace hl : lv_has ls 4 [(0, .ref (ad ho)), (1, .ref (ad cb))] := hl
  have hn := hO.1
  have hn6 := hO.2.1
  have hB := hO.2.2.1
  have hm := hB.1
  have hm6 := hB.2.1
  have hHC := isHC_apart hho hcb
  refine lv_aload_n hx hb dX5_setHabit_0 rfl (lv_at hl 1 rfl) ?_
  refine gfN S G hP cb 1 (isC_lt hcb) (oC hcb) rfl inX3 (by decide) nw_RX5_81 rfl rfl dX5_setHabit_1 ?_
  refine lv_istore_n (lv' := [(2, .int (σ cb 1)), (0, .ref (ad ho)), (1, .ref (ad cb))]) hx hb dX5_setHabit_4 rfl hl (by decide) rfl (fun ls hl => ?_)
  refine lv_aload_n hx hb dX5_setHabit_5 rfl (lv_at hl 2 rfl) ?_
  refine gfN S G hP cb 2 (isC_lt hcb) (oC hcb) rfl inX3 (by decide) nw_RX5_102 rfl rfl dX5_setHabit_6 ?_
  refine lv_istore_n (lv' := [(3, .int (σ cb 2)), (2, .int (σ cb 1)), (0, .ref (ad ho)), (1, .ref (ad cb))]) hx hb dX5_setHabit_9 rfl hl (by decide) rfl (fun ls hl => ?_)
  refine lv_aload_n hx hb dX5_setHabit_10 rfl (lv_at hl 2 rfl) ?_
  refine gf S G hP ho 0 (isHl0 hho) (oH hho) rfl inX5 (by decide) fl_RX5_10 rfl rfl dX5_setHabit_11 ?_
  refine lv_iload_n hx hb dX5_setHabit_14 rfl (lv_at hl 1 rfl) ?_
  refine cVie (As := [.int (σ cb 1)]) S G (ho + 1) (c_X8_holds l (D := D) (ct := ct) (ek := ek) (ad := ad) (N0 := N0) (X := X) (F := F) σ (ho + 1) (isPH hho) (σ cb 1)) ok_yX8_holds ml_RX5_108 (isPl0 (isPH hho)) (oP (isPH hho)) rfl hP hS hl.1 rfl (by decide) rfl rfl (Nat.le_of_ble_eq_true rfl) ⟨Nat.zero_le _, Nat.zero_le _⟩ dX5_setHabit_15 (fun H locs hP hS => ?_)
  refine lv_if_ne (tgt := 36) hx hb dX5_setHabit_18 (by decide) (fun c_18 => ?_) (fun c_18 => ?_)
  · refine lv_iload_n hx hb dX5_setHabit_36 rfl (lv_at hl 0 rfl) ?_
    refine cSie (As := [.int (σ cb 2)]) S G (c_X8_isHabit l (D := D) (ct := ct) (ek := ek) (ad := ad) (N0 := N0) (X := X) (F := F) σ (σ cb 2)) ok_yX8_isHabit ml_RX5_165 hP hS hl.1 rfl (by decide) rfl rfl (Nat.le_of_ble_eq_true rfl) ⟨Nat.zero_le _, Nat.zero_le _⟩ dX5_setHabit_37 (fun H locs hP hS => ?_)
    refine lv_if_ne (tgt := 52) hx hb dX5_setHabit_40 (by decide) (fun c_40 => ?_) (fun c_40 => ?_)
    · obtain ⟨h1, h1l⟩ := holdN c_18 hn (by omega)
      refine lv_aload_n hx hb dX5_setHabit_52 rfl (lv_at hl 2 rfl) ?_
      refine gf S G hP ho 0 (isHl0 hho) (oH hho) rfl inX5 (by decide) fl_RX5_10 rfl rfl dX5_setHabit_53 ?_
      refine gfN S G hP (ho + 1) 1 (isPl0 (isPH hho)) (oP (isPH hho)) rfl inX8 (by decide) nw_RX5_140 rfl rfl dX5_setHabit_56 ?_
      refine lv_iload_n hx hb dX5_setHabit_59 rfl (lv_at hl 1 rfl) ?_
      refine lv_tope (y := nI (tN (σ cb 1))) h1 ?_
      refine ald S G hP ((ho + 1) + 2) (tN (σ cb 1)) (isPl (isPH hho) (by decide)) ((aP2 (isPH hho)) _) rfl (by omega) (by decide) dX5_setHabit_60 ?_
      refine lv_iload_n hx hb dX5_setHabit_61 rfl (lv_at hl 0 rfl) ?_
      refine lv_icmp_ne (tgt := 74) hx hb dX5_setHabit_62 (by decide) (fun c_62 => ?_) (fun c_62 => ?_)
      · refine lv_aload_n hx hb dX5_setHabit_74 rfl (lv_at hl 3 rfl) ?_
        refine lv_aload_n hx hb dX5_setHabit_75 rfl (lv_at hl 2 rfl) ?_
        refine gf S G hP ho 0 (isHl0 hho) (oH hho) rfl inX5 (by decide) fl_RX5_10 rfl rfl dX5_setHabit_76 ?_
        refine lv_iload_n hx hb dX5_setHabit_79 rfl (lv_at hl 1 rfl) ?_
        refine lv_tope (y := nI (tN (σ cb 1))) h1 ?_
        refine lv_iload_n hx hb dX5_setHabit_80 rfl (lv_at hl 0 rfl) ?_
        refine cVie (As := [.int (nI (tN (σ cb 1))), .int (σ cb 2)]) S G (ho + 1) (c_X8_setHabit l (D := D) (ct := ct) (ek := ek) (ad := ad) (N0 := N0) (X := X) (F := F) σ (ho + 1) (isPH hho) (tN (σ cb 1)) (by omega) (σ cb 2)) ok_yX8_setHabit ml_RX5_168 (isPl0 (isPH hho)) (oP (isPH hho)) rfl hP hS hl.1 rfl (by decide) rfl rfl (Nat.le_of_ble_eq_true rfl) ⟨Nat.zero_le _, Nat.zero_le _⟩ dX5_setHabit_81 (fun H locs hP hS => ?_)
        refine pfN S G hP hS cb 4 (x := σ ((ho + 1) + 2) (tN (σ cb 1))) tyX3 tyX3_ok nmX3 (isC_lt hcb) (oC hcb) rfl inX3 (by decide) nw_RX5_99 rfl rfl rfl rfl (Nat.le_of_ble_eq_true rfl) (oC hcb) dX5_setHabit_84 (fun H locs hP hS => ?_)
        exact eV S hr hlocks hP hS dX5_setHabit_87 (by first | (simp only [habM, refM, c_18, c_40, c_62, ↓reduceIte, if_true, if_false, eq_self]; done) | rfl | (simp [habM, refM, c_18, c_40, c_62]; done) | grind [habM, refM])
      · refine lv_aload_n hx hb dX5_setHabit_65 rfl (lv_at hl 3 rfl) ?_
        refine lv_iconst (v := 5) hx hb dX5_setHabit_66 (by decide) ?_
        refine lv_iload_n hx hb dX5_setHabit_67 rfl (lv_at hl 0 rfl) ?_
        refine cVve (As := [.int 5, .int (σ cb 2)]) S G cb (c_X3_refuse l (D := D) (ct := ct) (ek := ek) (ad := ad) (N0 := N0) (X := X) (F := F) σ cb hcb 5 (σ cb 2)) ok_yX3_refuse ml_RX5_88 (isC_lt hcb) (oC hcb) rfl hP hS hl.1 rfl (by decide) rfl rfl (Nat.le_of_ble_eq_true rfl) ⟨Nat.zero_le _, Nat.zero_le _⟩ dX5_setHabit_68 (fun H locs hP hS => ?_)
        refine lv_goto (tgt := 87) hx hb dX5_setHabit_71 (by decide) ?_
        exact eV S hr hlocks hP hS dX5_setHabit_87 (by first | (simp only [habM, refM, c_18, c_40, c_62, ↓reduceIte, if_true, if_false, eq_self]; done) | rfl | (simp [habM, refM, c_18, c_40, c_62]; done) | grind [habM, refM])
    · refine lv_aload_n hx hb dX5_setHabit_43 rfl (lv_at hl 3 rfl) ?_
      refine lv_iconst (v := 1) hx hb dX5_setHabit_44 (by decide) ?_
      refine lv_iconst (v := 0) hx hb dX5_setHabit_45 (by decide) ?_
      refine cVve (As := [.int 1, .int 0]) S G cb (c_X3_refuse l (D := D) (ct := ct) (ek := ek) (ad := ad) (N0 := N0) (X := X) (F := F) σ cb hcb 1 0) ok_yX3_refuse ml_RX5_88 (isC_lt hcb) (oC hcb) rfl hP hS hl.1 rfl (by decide) rfl rfl (Nat.le_of_ble_eq_true rfl) ⟨Nat.zero_le _, Nat.zero_le _⟩ dX5_setHabit_46 (fun H locs hP hS => ?_)
      refine lv_goto (tgt := 87) hx hb dX5_setHabit_49 (by decide) ?_
      exact eV S hr hlocks hP hS dX5_setHabit_87 (by first | (simp only [habM, refM, c_18, c_40, ↓reduceIte, if_true, if_false, eq_self]; done) | rfl | (simp [habM, refM, c_18, c_40]; done) | grind [habM, refM])
  · refine lv_aload_n hx hb dX5_setHabit_21 rfl (lv_at hl 3 rfl) ?_
    refine lv_iconst (v := 3) hx hb dX5_setHabit_22 (by decide) ?_
    refine lv_aload_n hx hb dX5_setHabit_23 rfl (lv_at hl 2 rfl) ?_
    refine gf S G hP ho 0 (isHl0 hho) (oH hho) rfl inX5 (by decide) fl_RX5_10 rfl rfl dX5_setHabit_24 ?_
    refine gfN S G hP (ho + 1) 7 (isPl0 (isPH hho)) (oP (isPH hho)) rfl inX8 (by decide) nw_RX5_111 rfl rfl dX5_setHabit_27 ?_
    refine cVve (As := [.int 3, .int (σ (ho + 1) 7)]) S G cb (c_X3_refuse l (D := D) (ct := ct) (ek := ek) (ad := ad) (N0 := N0) (X := X) (F := F) σ cb hcb 3 (σ (ho + 1) 7)) ok_yX3_refuse ml_RX5_88 (isC_lt hcb) (oC hcb) rfl hP hS hl.1 rfl (by decide) rfl rfl (Nat.le_of_ble_eq_true rfl) ⟨Nat.zero_le _, Nat.zero_le _⟩ dX5_setHabit_30 (fun H locs hP hS => ?_)
    refine lv_goto (tgt := 87) hx hb dX5_setHabit_33 (by decide) ?_
    exact eV S hr hlocks hP hS dX5_setHabit_87 (by first | (simp only [habM, refM, c_18, ↓reduceIte, if_true, if_false, eq_self]; done) | rfl | (simp [habM, refM, c_18]; done) | grind [habM, refM])

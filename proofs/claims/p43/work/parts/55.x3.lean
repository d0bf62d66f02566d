/-! the class's calls that change (laid by wip/p43/spec_x3.py) -/
theorem th_303_307 : thOK 303 307 "java/lang/UnsupportedOperationException" ["java/lang/RuntimeException", "java/lang/Exception"] = true := by decide +kernel
theorem ok_yX10_keepReason : COK RX10 yX10_keepReason cX10_keepReason 3 none 2 := ⟨im_yX10_keepReason, se_RX10_yX10_keepReason, in_RX10, co_yX10_keepReason, ⟨rfl, by decide +kernel, by decide +kernel, by decide +kernel⟩, by decide⟩
set_option maxHeartbeats 1000000 in
set_option maxRecDepth 100000 in
theorem c_X10_keepReason (l : Launch) {D : va_G} {ct : Nat → ClassId} {ek ad : Nat → Nat} {N0 : Nat} {X : va_W} {F : State → Prop} (σ : Mem) (cb : Nat) (hcb : isC cb) (x : Int32) : MV l yX10_keepReason cX10_keepReason 3 0 D ct ek ad N0 X F [.ref (ad 0), .ref (ad cb), .int x] σ (fun τ => τ = kepM σ cb x) := by
  refine ms0 (own := RX10) (by decide) rfl (Nat.le_of_ble_eq_true rfl) (fun p e s m args below meth c S hr hlocks hnm G hP hS ls hl => ?_)
  have hx := S.1
  have hb := S.2.1
  replace hl : lv_has ls 3 [(0, .ref (ad 0)), (1, .ref (ad cb)), (2, .int x)] := hl
  refine lv_aload_n hx hb dX10_keepReason_0 rfl (lv_at hl 0 rfl) ?_
  refine lv_aload_n hx hb dX10_keepReason_1 rfl (lv_at hl 1 rfl) ?_
  refine gfN S G hP cb 5 (isC_lt hcb) (oC hcb) rfl inX3 (by decide) nw_RX10_408 rfl rfl dX10_keepReason_2 ?_
  refine pf S G hP hS 0 11 (x := σ cb 5) tyX10 tyX10_ok nmX10 (by decide) oX rfl inX10 (by decide) fl_RX10_313 rfl rfl rfl rfl (Nat.le_of_ble_eq_true rfl) oX dX10_keepReason_5 (fun H locs hP hS => ?_)
  refine lv_aload_n hx hb dX10_keepReason_8 rfl (lv_at hl 0 rfl) ?_
  refine lv_aload_n hx hb dX10_keepReason_9 rfl (lv_at hl 1 rfl) ?_
  refine gfN S G hP cb 6 (isC_lt hcb) (oC hcb) rfl inX3 (by decide) nw_RX10_411 rfl rfl dX10_keepReason_10 ?_
  refine lv_tope (y := σ cb 6) (sg_n0 hcb) ?_
  refine pf S G hP hS 0 12 (x := σ cb 6) tyX10 tyX10_ok nmX10 (by decide) oX rfl inX10 (by decide) fl_RX10_318 rfl rfl rfl rfl (Nat.le_of_ble_eq_true rfl) oX dX10_keepReason_13 (fun H locs hP hS => ?_)
  refine lv_aload_n hx hb dX10_keepReason_16 rfl (lv_at hl 0 rfl) ?_
  refine lv_iload_n hx hb dX10_keepReason_17 rfl (lv_at hl 2 rfl) ?_
  refine pf S G hP hS 0 13 (x := x) tyX10 tyX10_ok nmX10 (by decide) oX rfl inX10 (by decide) fl_RX10_321 rfl rfl rfl rfl (Nat.le_of_ble_eq_true rfl) oX dX10_keepReason_18 (fun H locs hP hS => ?_)
  exact eV S hr hlocks hP hS dX10_keepReason_21 (by unfold kepM; rfl)

theorem ok_yX10_acceptDraft : COK RX10 yX10_acceptDraft cX10_acceptDraft 1 none 0 := ⟨im_yX10_acceptDraft, se_RX10_yX10_acceptDraft, in_RX10, co_yX10_acceptDraft, ⟨rfl, by decide +kernel, by decide +kernel, by decide +kernel⟩, by decide⟩
set_option maxHeartbeats 1000000 in
set_option maxRecDepth 100000 in
theorem c_X10_acceptDraft (l : Launch) {D : va_G} {ct : Nat → ClassId} {ek ad : Nat → Nat} {N0 : Nat} {X : va_W} {F : State → Prop} (σ : Mem) (j : Nat) (hj : σ 77 1 = nI j) (hj8 : j < 8) (k9 : Nat) (hk9 : σ 77 2 = nI k9) (hk8 : k9 ≤ 8) (hz1 : ZB σ (1 + 1 + 3)) (hz2 : ZB σ (21 + 1 + 3)) : MV l yX10_acceptDraft cX10_acceptDraft 1 4 D ct ek ad N0 X F [.ref (ad 0)] σ (fun τ => AccQ τ σ j k9) := by
  refine ms0 (own := RX10) (by decide) rfl (Nat.le_of_ble_eq_true rfl) (fun p e s m args below meth c S hr hlocks hnm G hP hS ls hl => ?_)
  have hx := S.1
  have hb := S.2.1
  replace hl : lv_has ls 1 [(0, .ref (ad 0))] := hl
  refine lv_aload_n hx hb dX10_acceptDraft_0 rfl (lv_at hl 0 rfl) ?_
  refine gf S G hP 0 5 (by decide) oX rfl inX10 (by decide) fl_RX10_39 rfl rfl dX10_acceptDraft_1 ?_
  refine lv_aload_n hx hb dX10_acceptDraft_4 rfl (lv_at hl 0 rfl) ?_
  refine gf S G hP 0 0 (by decide) oX rfl inX10 (by decide) fl_RX10_10 rfl rfl dX10_acceptDraft_5 ?_
  refine cVv (As := [.ref (ad 1)]) S G 77 (c_X4_keep l (D := D) (ct := ct) (ek := ek) (ad := ad) (N0 := N0) (X := X) (F := F) σ 1 isH1 j hj (by omega) k9 hk9 (by omega) (by omega) hz1) ok_yX4_keep ml_RX10_405 (by decide) oHI rfl hP hS hl.1 rfl (by decide) rfl rfl (Nat.le_of_ble_eq_true rfl) ⟨Nat.zero_le _, Nat.zero_le _⟩ dX10_acceptDraft_8 (fun τ_2 H locs hp_r_1 hP hS => ?_)
  obtain ⟨ρ, hρ1, hρ2⟩ := hp_r_1
  have he21 : τ_2 (21 + 1 + 3) = σ (21 + 1 + 3) := by rw [hρ2, sg_n (by decide), sg_n (by decide)]; exact hρ1.1 _ (by omega)
  refine lv_aload_n hx hb dX10_acceptDraft_11 rfl (lv_at hl 0 rfl) ?_
  refine gf S G hP 0 0 (by decide) oX rfl inX10 (by decide) fl_RX10_10 rfl rfl dX10_acceptDraft_12 ?_
  refine lv_aload_n hx hb dX10_acceptDraft_15 rfl (lv_at hl 0 rfl) ?_
  refine gf S G hP 0 1 (by decide) oX rfl inX10 (by decide) fl_RX10_16 rfl rfl dX10_acceptDraft_16 ?_
  refine cVv (As := [.ref (ad 21)]) S G 1 (c_X5_copyFrom l (D := D) (ct := ct) (ek := ek) (ad := ad) (N0 := N0) (X := X) (F := F) τ_2 1 isH1 21 isH21 (by first | assumption | omega | (simp [sg_at]; assumption) | (simp [sg_at]; done)) (fun q hq => by rw [he21]; exact hz2 q hq)) ok_yX5_copyFrom ml_RX10_282 (isHl0 isH1) (oH isH1) rfl hP hS hl.1 rfl (by decide) rfl rfl (Nat.le_of_ble_eq_true rfl) ⟨Nat.zero_le _, Nat.zero_le _⟩ dX10_acceptDraft_19 (fun τ_4 H locs hp_r_3 hP hS => ?_)
  rw [hρ2] at hp_r_3
  exact eV S hr hlocks hP hS dX10_acceptDraft_22 ⟨ρ, hρ1, hp_r_3⟩

theorem ok_yX10_carryOutChange : COK RX10 yX10_carryOutChange cX10_carryOutChange 1 (some .int) 0 := ⟨im_yX10_carryOutChange, se_RX10_yX10_carryOutChange, in_RX10, co_yX10_carryOutChange, ⟨rfl, by decide +kernel, by decide +kernel, by decide +kernel⟩, by decide⟩
set_option maxHeartbeats 1000000 in
set_option maxRecDepth 100000 in
theorem c_X10_carryOutChange (l : Launch) {D : va_G} {ct : Nat → ClassId} {ek ad : Nat → Nat} {N0 : Nat} {X : va_W} {F : State → Prop} (σ : Mem) (n : Nat) (mb : Nat) (hO : HOK σ 1 n mb) (i : Nat) (hi8 : i < 8) (hk0 : σ 273 0 = nI i) (j : Nat) (hj : σ 77 1 = nI j) (hj8 : j < 8) (k9 : Nat) (hk9 : σ 77 2 = nI k9) (hk8 : k9 ≤ 8) (cs : Nat → Nat) (hF : ∀ U, F U → FX ek cs N0 U) (hY : ∀ U, F U → FY U) (hlt : l.stackTraces = false) : MXi l yX10_carryOutChange cX10_carryOutChange 1 (some .int) 7 1 D ct ek ad N0 X F [.ref (ad 0)] σ (fun r τ => CcR τ σ n mb i j k9 r) (fun E τ => E = "java/lang/UnsupportedOperationException" ∧ CcX τ σ n mb i) := by
  refine ms0x (own := RX10) (by decide) rfl (Nat.le_of_ble_eq_true rfl) (fun p e s m args below meth c S hr hlocks hout G hP hS ls hl => ?_)
  have hx := S.1
  have hb := S.2.1
  replace hl : lv_has ls 1 [(0, .ref (ad 0))] := hl
  have FC := hF s G.2.2.2.2.2
  have FZ := hY s G.2.2.2.2.2
  have hn := hO.1
  have hn6 := hO.2.1
  have hB0 := hO.2.2.1
  have hm := hB0.1
  have hm6 := hB0.2.1
  refine lv_aload_n hx hb dX10_carryOutChange_0 rfl (lv_at hl 0 rfl) ?_
  refine gf S G hP 0 1 (by decide) oX rfl inX10 (by decide) fl_RX10_16 rfl rfl dX10_carryOutChange_1 ?_
  refine lv_aload_n hx hb dX10_carryOutChange_4 rfl (lv_at hl 0 rfl) ?_
  refine gf S G hP 0 0 (by decide) oX rfl inX10 (by decide) fl_RX10_10 rfl rfl dX10_carryOutChange_5 ?_
  refine cVv (As := [.ref (ad 1)]) S G 21 (c_X5_copyFrom l (D := D) (ct := ct) (ek := ek) (ad := ad) (N0 := N0) (X := X) (F := F) σ 21 isH21 1 isH1 (by first | assumption | omega | (simp [sg_at]; assumption) | (simp [sg_at]; done)) hO.2.2.2) ok_yX5_copyFrom ml_RX10_282 (isHl0 isH21) (oH isH21) rfl hP hS hl.1 rfl (by decide) rfl rfl (Nat.le_of_ble_eq_true rfl) ⟨by decide, by decide⟩ dX10_carryOutChange_8 (fun τ_2 H locs hp_r_1 hP hS => ?_)
  have hc1 := hp_r_1
  have hO1 := HOK_cp hc1 hO
  refine lv_aload_n hx hb dX10_carryOutChange_11 rfl (lv_at hl 0 rfl) ?_
  refine gf S G hP 0 1 (by decide) oX rfl inX10 (by decide) fl_RX10_16 rfl rfl dX10_carryOutChange_12 ?_
  refine lv_aload_n hx hb dX10_carryOutChange_15 rfl (lv_at hl 0 rfl) ?_
  refine gf S G hP 0 7 (by decide) oX rfl inX10 (by decide) fl_RX10_53 rfl rfl dX10_carryOutChange_16 ?_
  refine cVve (As := [.ref (ad 273)]) S G 21 (c_X5_carryOut l (D := D) (ct := ct) (ek := ek) (ad := ad) (N0 := N0) (X := X) (F := F) τ_2 cs hF 21 isH21 273 isC273 n mb hO1 i hi8 ((congrFun (hc1.1 273 (by decide)) 0).trans hk0)) ok_yX5_carryOut ml_RX10_292 (isHl0 isH21) (oH isH21) rfl hP hS hl.1 rfl (by decide) rfl rfl (Nat.le_of_ble_eq_true rfl) ⟨by decide, by decide⟩ dX10_carryOutChange_19 (fun H locs hP hS => ?_)
  have hfr : ∀ c, ¬ (21 ≤ c ∧ c < 21 + 20) → c ≠ 273 → (carH τ_2 21 n mb 273 i) c = σ c := fun c h8 h9 => (carH_u hO1 h9 (Or.inl h8)).trans (hc1.1 c h8)
  have hz1 : ZB (carH τ_2 21 n mb 273 i) (1 + 1 + 3) := ZB_e hO.2.2.2 (hfr _ (by decide) (by decide))
  have hz2 : ZB (carH τ_2 21 n mb 273 i) (21 + 1 + 3) := carH_z hO1 (by decide)
  refine lv_aload_n hx hb dX10_carryOutChange_22 rfl (lv_at hl 0 rfl) ?_
  refine gf S G hP 0 7 (by decide) oX rfl inX10 (by decide) fl_RX10_53 rfl rfl dX10_carryOutChange_23 ?_
  refine cVie (As := []) S G 273 (c_X3_isRefused l (D := D) (ct := ct) (ek := ek) (ad := ad) (N0 := N0) (X := X) (F := F) (carH τ_2 21 n mb 273 i) 273 isC273) ok_yX3_isRefused ml_RX10_296 (isC_lt isC273) (oC isC273) rfl hP hS hl.1 rfl (by decide) rfl rfl (Nat.le_of_ble_eq_true rfl) ⟨by decide, by decide⟩ dX10_carryOutChange_26 (fun H locs hP hS => ?_)
  refine lv_if_eq (tgt := 52) hx hb dX10_carryOutChange_29 (by decide) (fun c_29 => ?_) (fun c_29 => ?_)
  · refine lv_aload_n hx hb dX10_carryOutChange_52 rfl (lv_at hl 0 rfl) ?_
    refine cVv (As := []) S G 0 (c_X10_acceptDraft l (D := D) (ct := ct) (ek := ek) (ad := ad) (N0 := N0) (X := X) (F := F) (carH τ_2 21 n mb 273 i) j ((congrFun (hfr 77 (by decide) (by decide)) 1).trans hj) (by omega) k9 ((congrFun (hfr 77 (by decide) (by decide)) 2).trans hk9) (by omega) hz1 hz2) ok_yX10_acceptDraft ml_RX10_308 (by decide) oX rfl hP hS hl.1 rfl (by decide) rfl rfl (Nat.le_of_ble_eq_true rfl) ⟨by decide, by decide⟩ dX10_carryOutChange_53 (fun τ_8 H locs hp_r_7 hP hS => ?_)
    have hac := hp_r_7
    refine lv_aload_n hx hb dX10_carryOutChange_56 rfl (lv_at hl 0 rfl) ?_
    refine gf S G hP 0 7 (by decide) oX rfl inX10 (by decide) fl_RX10_53 rfl rfl dX10_carryOutChange_57 ?_
    refine gfN S G hP 273 4 (isC_lt isC273) (oC isC273) rfl inX3 (by decide) nw_RX10_402 rfl rfl dX10_carryOutChange_60 ?_
    refine lv_tope (y := (carH τ_2 21 n mb 273 i) 273 4) (by obtain ⟨_, w1, w2⟩ := hac; rw [w2.1 273 (by decide), sg_n (by decide), sg_n (by decide), w1.1 273 (by omega)]) ?_
    exact eIx S hr hlocks hP hS ⟨by decide, by decide⟩ dX10_carryOutChange_63 ⟨_, hc1, (by by_cases z : (carH τ_2 21 n mb 273 i) 273 5 = 0; exact z; rw [if_neg z] at c_29; exact absurd c_29 (by decide)), hac, rfl⟩
  · refine lv_aload_n hx hb dX10_carryOutChange_32 rfl (lv_at hl 0 rfl) ?_
    refine lv_aload_n hx hb dX10_carryOutChange_33 rfl (lv_at hl 0 rfl) ?_
    refine gf S G hP 0 7 (by decide) oX rfl inX10 (by decide) fl_RX10_53 rfl rfl dX10_carryOutChange_34 ?_
    refine lv_iconst (v := 0) hx hb dX10_carryOutChange_37 (by decide) ?_
    refine cVve (As := [.ref (ad 273), .int 0]) S G 0 (c_X10_keepReason l (D := D) (ct := ct) (ek := ek) (ad := ad) (N0 := N0) (X := X) (F := F) (carH τ_2 21 n mb 273 i) 273 isC273 0) ok_yX10_keepReason ml_RX10_299 (by decide) oX rfl hP hS hl.1 rfl (by decide) rfl rfl (Nat.le_of_ble_eq_true rfl) ⟨by decide, by decide⟩ dX10_carryOutChange_38 (fun H locs hP hS => ?_)
    exact thSW (names := ["java/lang/RuntimeException", "java/lang/Exception"]) S G FC FZ hlt (List.mem_of_getElem? (i := 0) rfl) th_303_307 hP hS hl.1 hout hlocks rfl ⟨rfl, by decide⟩ (Nat.le_of_ble_eq_true rfl) ⟨by decide, by decide⟩ (⟨rfl, _, hc1, (fun z => c_29 (by rw [if_pos z])), rfl⟩) dX10_carryOutChange_41 dX10_carryOutChange_44 dX10_carryOutChange_45 dX10_carryOutChange_48 dX10_carryOutChange_51

theorem ok_yX10_person : COK RX10 yX10_person cX10_person 3 (some .int) 2 := ⟨im_yX10_person, se_RX10_yX10_person, in_RX10, co_yX10_person, ⟨rfl, by decide +kernel, by decide +kernel, by decide +kernel⟩, by decide⟩
set_option maxHeartbeats 1000000 in
set_option maxRecDepth 100000 in
theorem c_X10_person (l : Launch) {D : va_G} {ct : Nat → ClassId} {ek ad : Nat → Nat} {N0 : Nat} {X : va_W} {F : State → Prop} (σ : Mem) (x : Int32) (y : Int32) (n : Nat) (mb : Nat) (hO : HOK σ 1 n mb) (j : Nat) (hj : σ 77 1 = nI j) (hj8 : j < 8) (k9 : Nat) (hk9 : σ 77 2 = nI k9) (hk8 : k9 ≤ 8) (cs : Nat → Nat) (hF : ∀ U, F U → FX ek cs N0 U) (hY : ∀ U, F U → FY U) (hlt : l.stackTraces = false) : MXi l yX10_person cX10_person 3 (some .int) 8 2 D ct ek ad N0 X F [.ref (ad 0), .int x, .int y] σ (fun r τ => CcR τ (askM σ 273 (if y = 0 then 0 else 1) x 0 0) n mb (if y = 0 then 0 else 1) j k9 r) (fun E τ => E = "java/lang/UnsupportedOperationException" ∧ CcX τ (askM σ 273 (if y = 0 then 0 else 1) x 0 0) n mb (if y = 0 then 0 else 1)) := by
  refine ms0x (own := RX10) (by decide) rfl (Nat.le_of_ble_eq_true rfl) (fun p e s m args below meth c S hr hlocks hout G hP hS ls hl => ?_)
  have hx := S.1
  have hb := S.2.1
  replace hl : lv_has ls 3 [(0, .ref (ad 0)), (1, .int x), (2, .int y)] := hl
  have FC := hF s G.2.2.2.2.2
  have FZ := hY s G.2.2.2.2.2
  have hn := hO.1
  have hn6 := hO.2.1
  have hB0 := hO.2.2.1
  have hm := hB0.1
  have hm6 := hB0.2.1
  refine lv_aload_n hx hb dX10_person_0 rfl (lv_at hl 0 rfl) ?_
  refine gf S G hP 0 7 (by decide) oX rfl inX10 (by decide) fl_RX10_53 rfl rfl dX10_person_1 ?_
  refine lv_iload_n hx hb dX10_person_4 rfl (lv_at hl 2 rfl) ?_
  refine lv_if_eq (tgt := 14) hx hb dX10_person_5 (by decide) (fun c_5 => ?_) (fun c_5 => ?_)
  · refine va_gets (A := fr N0) hx hb (FC.kn (j := 0) (by decide)) hS S.2.2.2.1 (S.2.2.2.2 _ fl_RX10_74) (fun _ h => h) dX10_person_14 ?_
    refine lv_iload_n hx hb dX10_person_17 rfl (lv_at hl 1 rfl) ?_
    refine lv_iconst (v := 0) hx hb dX10_person_18 (by decide) ?_
    refine lv_iconst (v := 0) hx hb dX10_person_19 (by decide) ?_
    refine cVve (As := [.ref (ek 0), .int x, .int 0, .int 0]) S G 273 (c_X3_ask l (D := D) (ct := ct) (ek := ek) (ad := ad) (N0 := N0) (X := X) (F := F) σ 273 isC273 0 (by decide) x 0 0) ok_yX3_ask ml_RX10_77 (isC_lt isC273) (oC isC273) rfl hP hS hl.1 rfl (by decide) rfl rfl (Nat.le_of_ble_eq_true rfl) ⟨by decide, by decide⟩ dX10_person_20 (fun H locs hP hS => ?_)
    refine lv_aload_n hx hb dX10_person_23 rfl (lv_at hl 0 rfl) ?_
    refine cXi (As := []) S G 0 (c_X10_carryOutChange l (D := D) (ct := ct) (ek := ek) (ad := ad) (N0 := N0) (X := X) (F := F) (askM σ 273 0 x 0 0) n mb (HOK_c (fun c h8 h9 => askM_c (by omega)) hO) 0 (by decide) askM_0 j ((congrFun (askM_c (by decide)) 1).trans hj) (by omega) k9 ((congrFun (askM_c (by decide)) 2).trans hk9) (by omega) cs (by first | assumption | omega | (simp [sg_at]; assumption) | (simp [sg_at]; done)) (by first | assumption | omega | (simp [sg_at]; assumption) | (simp [sg_at]; done)) (by first | assumption | omega | (simp [sg_at]; assumption) | (simp [sg_at]; done))) ok_yX10_carryOutChange ml_RX10_81 (by decide) oX rfl hP hS hl.1 rfl (by decide) rfl rfl (Nat.le_of_ble_eq_true rfl) ⟨by decide, by decide⟩ hout hlocks dX10_person_24 (fun E τ h => by simp only [c_5, ↓reduceIte]; exact h) (fun r_3 τ_4 H locs hp_r_3 hP hS => ?_)
    have hcc := hp_r_3
    exact eIx S hr hlocks hP hS ⟨by decide, by decide⟩ dX10_person_27 (by simp only [c_5, ↓reduceIte]; exact hcc)
  · refine va_gets (A := fr N0) hx hb (FC.kn (j := 1) (by decide)) hS S.2.2.2.1 (S.2.2.2.2 _ fl_RX10_68) (fun _ h => h) dX10_person_8 ?_
    refine lv_goto (tgt := 17) hx hb dX10_person_11 (by decide) ?_
    refine lv_iload_n hx hb dX10_person_17 rfl (lv_at hl 1 rfl) ?_
    refine lv_iconst (v := 0) hx hb dX10_person_18 (by decide) ?_
    refine lv_iconst (v := 0) hx hb dX10_person_19 (by decide) ?_
    refine cVve (As := [.ref (ek 1), .int x, .int 0, .int 0]) S G 273 (c_X3_ask l (D := D) (ct := ct) (ek := ek) (ad := ad) (N0 := N0) (X := X) (F := F) σ 273 isC273 1 (by decide) x 0 0) ok_yX3_ask ml_RX10_77 (isC_lt isC273) (oC isC273) rfl hP hS hl.1 rfl (by decide) rfl rfl (Nat.le_of_ble_eq_true rfl) ⟨by decide, by decide⟩ dX10_person_20 (fun H locs hP hS => ?_)
    refine lv_aload_n hx hb dX10_person_23 rfl (lv_at hl 0 rfl) ?_
    refine cXi (As := []) S G 0 (c_X10_carryOutChange l (D := D) (ct := ct) (ek := ek) (ad := ad) (N0 := N0) (X := X) (F := F) (askM σ 273 1 x 0 0) n mb (HOK_c (fun c h8 h9 => askM_c (by omega)) hO) 1 (by decide) askM_0 j ((congrFun (askM_c (by decide)) 1).trans hj) (by omega) k9 ((congrFun (askM_c (by decide)) 2).trans hk9) (by omega) cs (by first | assumption | omega | (simp [sg_at]; assumption) | (simp [sg_at]; done)) (by first | assumption | omega | (simp [sg_at]; assumption) | (simp [sg_at]; done)) (by first | assumption | omega | (simp [sg_at]; assumption) | (simp [sg_at]; done))) ok_yX10_carryOutChange ml_RX10_81 (by decide) oX rfl hP hS hl.1 rfl (by decide) rfl rfl (Nat.le_of_ble_eq_true rfl) ⟨by decide, by decide⟩ hout hlocks dX10_person_24 (fun E τ h => by simp only [c_5, ↓reduceIte]; exact h) (fun r_7 τ_8 H locs hp_r_7 hP hS => ?_)
    have hcc := hp_r_7
    exact eIx S hr hlocks hP hS ⟨by decide, by decide⟩ dX10_person_27 (by simp only [c_5, ↓reduceIte]; exact hcc)

theorem ok_yX10_friends : COK RX10 yX10_friends cX10_friends 4 (some .int) 3 := ⟨im_yX10_friends, se_RX10_yX10_friends, in_RX10, co_yX10_friends, ⟨rfl, by decide +kernel, by decide +kernel, by decide +kernel⟩, by decide⟩
set_option maxHeartbeats 1000000 in
set_option maxRecDepth 100000 in
theorem c_X10_friends (l : Launch) {D : va_G} {ct : Nat → ClassId} {ek ad : Nat → Nat} {N0 : Nat} {X : va_W} {F : State → Prop} (σ : Mem) (x : Int32) (y : Int32) (z : Int32) (n : Nat) (mb : Nat) (hO : HOK σ 1 n mb) (j : Nat) (hj : σ 77 1 = nI j) (hj8 : j < 8) (k9 : Nat) (hk9 : σ 77 2 = nI k9) (hk8 : k9 ≤ 8) (cs : Nat → Nat) (hF : ∀ U, F U → FX ek cs N0 U) (hY : ∀ U, F U → FY U) (hlt : l.stackTraces = false) : MXi l yX10_friends cX10_friends 4 (some .int) 8 2 D ct ek ad N0 X F [.ref (ad 0), .int x, .int y, .int z] σ (fun r τ => CcR τ (askM σ 273 2 x y z) n mb 2 j k9 r) (fun E τ => E = "java/lang/UnsupportedOperationException" ∧ CcX τ (askM σ 273 2 x y z) n mb 2) := by
  refine ms0x (own := RX10) (by decide) rfl (Nat.le_of_ble_eq_true rfl) (fun p e s m args below meth c S hr hlocks hout G hP hS ls hl => ?_)
  have hx := S.1
  have hb := S.2.1
  replace hl : lv_has ls 4 [(0, .ref (ad 0)), (1, .int x), (2, .int y), (3, .int z)] := hl
  have FC := hF s G.2.2.2.2.2
  have FZ := hY s G.2.2.2.2.2
  have hn := hO.1
  have hn6 := hO.2.1
  have hB0 := hO.2.2.1
  have hm := hB0.1
  have hm6 := hB0.2.1
  refine lv_aload_n hx hb dX10_friends_0 rfl (lv_at hl 0 rfl) ?_
  refine gf S G hP 0 7 (by decide) oX rfl inX10 (by decide) fl_RX10_53 rfl rfl dX10_friends_1 ?_
  refine va_gets (A := fr N0) hx hb (FC.kn (j := 2) (by decide)) hS S.2.2.2.1 (S.2.2.2.2 _ fl_RX10_85) (fun _ h => h) dX10_friends_4 ?_
  refine lv_iload_n hx hb dX10_friends_7 rfl (lv_at hl 1 rfl) ?_
  refine lv_iload_n hx hb dX10_friends_8 rfl (lv_at hl 2 rfl) ?_
  refine lv_iload_n hx hb dX10_friends_9 rfl (lv_at hl 3 rfl) ?_
  refine cVve (As := [.ref (ek 2), .int x, .int y, .int z]) S G 273 (c_X3_ask l (D := D) (ct := ct) (ek := ek) (ad := ad) (N0 := N0) (X := X) (F := F) σ 273 isC273 2 (by decide) x y z) ok_yX3_ask ml_RX10_77 (isC_lt isC273) (oC isC273) rfl hP hS hl.1 rfl (by decide) rfl rfl (Nat.le_of_ble_eq_true rfl) ⟨by decide, by decide⟩ dX10_friends_10 (fun H locs hP hS => ?_)
  refine lv_aload_n hx hb dX10_friends_13 rfl (lv_at hl 0 rfl) ?_
  refine cXi (As := []) S G 0 (c_X10_carryOutChange l (D := D) (ct := ct) (ek := ek) (ad := ad) (N0 := N0) (X := X) (F := F) (askM σ 273 2 x y z) n mb (HOK_c (fun c h8 h9 => askM_c (by omega)) hO) 2 (by decide) askM_0 j ((congrFun (askM_c (by decide)) 1).trans hj) (by omega) k9 ((congrFun (askM_c (by decide)) 2).trans hk9) (by omega) cs (by first | assumption | omega | (simp [sg_at]; assumption) | (simp [sg_at]; done)) (by first | assumption | omega | (simp [sg_at]; assumption) | (simp [sg_at]; done)) (by first | assumption | omega | (simp [sg_at]; assumption) | (simp [sg_at]; done))) ok_yX10_carryOutChange ml_RX10_81 (by decide) oX rfl hP hS hl.1 rfl (by decide) rfl rfl (Nat.le_of_ble_eq_true rfl) ⟨by decide, by decide⟩ hout hlocks dX10_friends_14 (fun E τ h => h) (fun r_3 τ_4 H locs hp_r_3 hP hS => ?_)
  have hcc := hp_r_3
  exact eIx S hr hlocks hP hS ⟨by decide, by decide⟩ dX10_friends_17 hcc

theorem ok_yX10_round : COK RX10 yX10_round cX10_round 1 (some .int) 0 := ⟨im_yX10_round, se_RX10_yX10_round, in_RX10, co_yX10_round, ⟨rfl, by decide +kernel, by decide +kernel, by decide +kernel⟩, by decide⟩
set_option maxHeartbeats 1000000 in
set_option maxRecDepth 100000 in
theorem c_X10_round (l : Launch) {D : va_G} {ct : Nat → ClassId} {ek ad : Nat → Nat} {N0 : Nat} {X : va_W} {F : State → Prop} (σ : Mem) (n : Nat) (mb : Nat) (hO : HOK σ 1 n mb) (j : Nat) (hj : σ 77 1 = nI j) (hj8 : j < 8) (k9 : Nat) (hk9 : σ 77 2 = nI k9) (hk8 : k9 ≤ 8) (cs : Nat → Nat) (hF : ∀ U, F U → FX ek cs N0 U) (hY : ∀ U, F U → FY U) (hlt : l.stackTraces = false) : MXi l yX10_round cX10_round 1 (some .int) 8 2 D ct ek ad N0 X F [.ref (ad 0)] σ (fun r τ => CcR τ (askM σ 273 3 0 0 0) n mb 3 j k9 r) (fun E τ => E = "java/lang/UnsupportedOperationException" ∧ CcX τ (askM σ 273 3 0 0 0) n mb 3) := by
  refine ms0x (own := RX10) (by decide) rfl (Nat.le_of_ble_eq_true rfl) (fun p e s m args below meth c S hr hlocks hout G hP hS ls hl => ?_)
  have hx := S.1
  have hb := S.2.1
  replace hl : lv_has ls 1 [(0, .ref (ad 0))] := hl
  have FC := hF s G.2.2.2.2.2
  have FZ := hY s G.2.2.2.2.2
  have hn := hO.1
  have hn6 := hO.2.1
  have hB0 := hO.2.2.1
  have hm := hB0.1
  have hm6 := hB0.2.1
  refine lv_aload_n hx hb dX10_round_0 rfl (lv_at hl 0 rfl) ?_
  refine gf S G hP 0 7 (by decide) oX rfl inX10 (by decide) fl_RX10_53 rfl rfl dX10_round_1 ?_
  refine va_gets (A := fr N0) hx hb (FC.kn (j := 3) (by decide)) hS S.2.2.2.1 (S.2.2.2.2 _ fl_RX10_88) (fun _ h => h) dX10_round_4 ?_
  refine lv_iconst (v := 0) hx hb dX10_round_7 (by decide) ?_
  refine lv_iconst (v := 0) hx hb dX10_round_8 (by decide) ?_
  refine lv_iconst (v := 0) hx hb dX10_round_9 (by decide) ?_
  refine cVve (As := [.ref (ek 3), .int 0, .int 0, .int 0]) S G 273 (c_X3_ask l (D := D) (ct := ct) (ek := ek) (ad := ad) (N0 := N0) (X := X) (F := F) σ 273 isC273 3 (by decide) 0 0 0) ok_yX3_ask ml_RX10_77 (isC_lt isC273) (oC isC273) rfl hP hS hl.1 rfl (by decide) rfl rfl (Nat.le_of_ble_eq_true rfl) ⟨by decide, by decide⟩ dX10_round_10 (fun H locs hP hS => ?_)
  refine lv_aload_n hx hb dX10_round_13 rfl (lv_at hl 0 rfl) ?_
  refine cXi (As := []) S G 0 (c_X10_carryOutChange l (D := D) (ct := ct) (ek := ek) (ad := ad) (N0 := N0) (X := X) (F := F) (askM σ 273 3 0 0 0) n mb (HOK_c (fun c h8 h9 => askM_c (by omega)) hO) 3 (by decide) askM_0 j ((congrFun (askM_c (by decide)) 1).trans hj) (by omega) k9 ((congrFun (askM_c (by decide)) 2).trans hk9) (by omega) cs (by first | assumption | omega | (simp [sg_at]; assumption) | (simp [sg_at]; done)) (by first | assumption | omega | (simp [sg_at]; assumption) | (simp [sg_at]; done)) (by first | assumption | omega | (simp [sg_at]; assumption) | (simp [sg_at]; done))) ok_yX10_carryOutChange ml_RX10_81 (by decide) oX rfl hP hS hl.1 rfl (by decide) rfl rfl (Nat.le_of_ble_eq_true rfl) ⟨by decide, by decide⟩ hout hlocks dX10_round_14 (fun E τ h => h) (fun r_3 τ_4 H locs hp_r_3 hP hS => ?_)
  have hcc := hp_r_3
  exact eIx S hr hlocks hP hS ⟨by decide, by decide⟩ dX10_round_17 hcc

theorem ok_yX10_fact : COK RX10 yX10_fact cX10_fact 3 (some .int) 2 := ⟨im_yX10_fact, se_RX10_yX10_fact, in_RX10, co_yX10_fact, ⟨rfl, by decide +kernel, by decide +kernel, by decide +kernel⟩, by decide⟩
set_option maxHeartbeats 1000000 in
set_option maxRecDepth 100000 in
theorem c_X10_fact (l : Launch) {D : va_G} {ct : Nat → ClassId} {ek ad : Nat → Nat} {N0 : Nat} {X : va_W} {F : State → Prop} (σ : Mem) (x : Int32) (y : Int32) (n : Nat) (mb : Nat) (hO : HOK σ 1 n mb) (j : Nat) (hj : σ 77 1 = nI j) (hj8 : j < 8) (k9 : Nat) (hk9 : σ 77 2 = nI k9) (hk8 : k9 ≤ 8) (cs : Nat → Nat) (hF : ∀ U, F U → FX ek cs N0 U) (hY : ∀ U, F U → FY U) (hlt : l.stackTraces = false) : MXi l yX10_fact cX10_fact 3 (some .int) 8 2 D ct ek ad N0 X F [.ref (ad 0), .int x, .int y] σ (fun r τ => CcR τ (askM σ 273 4 x y 0) n mb 4 j k9 r) (fun E τ => E = "java/lang/UnsupportedOperationException" ∧ CcX τ (askM σ 273 4 x y 0) n mb 4) := by
  refine ms0x (own := RX10) (by decide) rfl (Nat.le_of_ble_eq_true rfl) (fun p e s m args below meth c S hr hlocks hout G hP hS ls hl => ?_)
  have hx := S.1
  have hb := S.2.1
  replace hl : lv_has ls 3 [(0, .ref (ad 0)), (1, .int x), (2, .int y)] := hl
  have FC := hF s G.2.2.2.2.2
  have FZ := hY s G.2.2.2.2.2
  have hn := hO.1
  have hn6 := hO.2.1
  have hB0 := hO.2.2.1
  have hm := hB0.1
  have hm6 := hB0.2.1
  refine lv_aload_n hx hb dX10_fact_0 rfl (lv_at hl 0 rfl) ?_
  refine gf S G hP 0 7 (by decide) oX rfl inX10 (by decide) fl_RX10_53 rfl rfl dX10_fact_1 ?_
  refine va_gets (A := fr N0) hx hb (FC.kn (j := 4) (by decide)) hS S.2.2.2.1 (S.2.2.2.2 _ fl_RX10_91) (fun _ h => h) dX10_fact_4 ?_
  refine lv_iload_n hx hb dX10_fact_7 rfl (lv_at hl 1 rfl) ?_
  refine lv_iload_n hx hb dX10_fact_8 rfl (lv_at hl 2 rfl) ?_
  refine lv_iconst (v := 0) hx hb dX10_fact_9 (by decide) ?_
  refine cVve (As := [.ref (ek 4), .int x, .int y, .int 0]) S G 273 (c_X3_ask l (D := D) (ct := ct) (ek := ek) (ad := ad) (N0 := N0) (X := X) (F := F) σ 273 isC273 4 (by decide) x y 0) ok_yX3_ask ml_RX10_77 (isC_lt isC273) (oC isC273) rfl hP hS hl.1 rfl (by decide) rfl rfl (Nat.le_of_ble_eq_true rfl) ⟨by decide, by decide⟩ dX10_fact_10 (fun H locs hP hS => ?_)
  refine lv_aload_n hx hb dX10_fact_13 rfl (lv_at hl 0 rfl) ?_
  refine cXi (As := []) S G 0 (c_X10_carryOutChange l (D := D) (ct := ct) (ek := ek) (ad := ad) (N0 := N0) (X := X) (F := F) (askM σ 273 4 x y 0) n mb (HOK_c (fun c h8 h9 => askM_c (by omega)) hO) 4 (by decide) askM_0 j ((congrFun (askM_c (by decide)) 1).trans hj) (by omega) k9 ((congrFun (askM_c (by decide)) 2).trans hk9) (by omega) cs (by first | assumption | omega | (simp [sg_at]; assumption) | (simp [sg_at]; done)) (by first | assumption | omega | (simp [sg_at]; assumption) | (simp [sg_at]; done)) (by first | assumption | omega | (simp [sg_at]; assumption) | (simp [sg_at]; done))) ok_yX10_carryOutChange ml_RX10_81 (by decide) oX rfl hP hS hl.1 rfl (by decide) rfl rfl (Nat.le_of_ble_eq_true rfl) ⟨by decide, by decide⟩ hout hlocks dX10_fact_14 (fun E τ h => h) (fun r_3 τ_4 H locs hp_r_3 hP hS => ?_)
  have hcc := hp_r_3
  exact eIx S hr hlocks hP hS ⟨by decide, by decide⟩ dX10_fact_17 hcc

theorem ok_yX10_beam : COK RX10 yX10_beam cX10_beam 4 (some .int) 3 := ⟨im_yX10_beam, se_RX10_yX10_beam, in_RX10, co_yX10_beam, ⟨rfl, by decide +kernel, by decide +kernel, by decide +kernel⟩, by decide⟩
set_option maxHeartbeats 1000000 in
set_option maxRecDepth 100000 in
theorem c_X10_beam (l : Launch) {D : va_G} {ct : Nat → ClassId} {ek ad : Nat → Nat} {N0 : Nat} {X : va_W} {F : State → Prop} (σ : Mem) (x : Int32) (y : Int32) (z : Int32) (n : Nat) (mb : Nat) (hO : HOK σ 1 n mb) (j : Nat) (hj : σ 77 1 = nI j) (hj8 : j < 8) (k9 : Nat) (hk9 : σ 77 2 = nI k9) (hk8 : k9 ≤ 8) (cs : Nat → Nat) (hF : ∀ U, F U → FX ek cs N0 U) (hY : ∀ U, F U → FY U) (hlt : l.stackTraces = false) : MXi l yX10_beam cX10_beam 4 (some .int) 8 2 D ct ek ad N0 X F [.ref (ad 0), .int x, .int y, .int z] σ (fun r τ => CcR τ (askM σ 273 5 x y z) n mb 5 j k9 r) (fun E τ => E = "java/lang/UnsupportedOperationException" ∧ CcX τ (askM σ 273 5 x y z) n mb 5) := by
  refine ms0x (own := RX10) (by decide) rfl (Nat.le_of_ble_eq_true rfl) (fun p e s m args below meth c S hr hlocks hout G hP hS ls hl => ?_)
  have hx := S.1
  have hb := S.2.1
  replace hl : lv_has ls 4 [(0, .ref (ad 0)), (1, .int x), (2, .int y), (3, .int z)] := hl
  have FC := hF s G.2.2.2.2.2
  have FZ := hY s G.2.2.2.2.2
  have hn := hO.1
  have hn6 := hO.2.1
  have hB0 := hO.2.2.1
  have hm := hB0.1
  have hm6 := hB0.2.1
  refine lv_aload_n hx hb dX10_beam_0 rfl (lv_at hl 0 rfl) ?_
  refine gf S G hP 0 7 (by decide) oX rfl inX10 (by decide) fl_RX10_53 rfl rfl dX10_beam_1 ?_
  refine va_gets (A := fr N0) hx hb (FC.kn (j := 5) (by decide)) hS S.2.2.2.1 (S.2.2.2.2 _ fl_RX10_94) (fun _ h => h) dX10_beam_4 ?_
  refine lv_iload_n hx hb dX10_beam_7 rfl (lv_at hl 1 rfl) ?_
  refine lv_iload_n hx hb dX10_beam_8 rfl (lv_at hl 2 rfl) ?_
  refine lv_iload_n hx hb dX10_beam_9 rfl (lv_at hl 3 rfl) ?_
  refine cVve (As := [.ref (ek 5), .int x, .int y, .int z]) S G 273 (c_X3_ask l (D := D) (ct := ct) (ek := ek) (ad := ad) (N0 := N0) (X := X) (F := F) σ 273 isC273 5 (by decide) x y z) ok_yX3_ask ml_RX10_77 (isC_lt isC273) (oC isC273) rfl hP hS hl.1 rfl (by decide) rfl rfl (Nat.le_of_ble_eq_true rfl) ⟨by decide, by decide⟩ dX10_beam_10 (fun H locs hP hS => ?_)
  refine lv_aload_n hx hb dX10_beam_13 rfl (lv_at hl 0 rfl) ?_
  refine cXi (As := []) S G 0 (c_X10_carryOutChange l (D := D) (ct := ct) (ek := ek) (ad := ad) (N0 := N0) (X := X) (F := F) (askM σ 273 5 x y z) n mb (HOK_c (fun c h8 h9 => askM_c (by omega)) hO) 5 (by decide) askM_0 j ((congrFun (askM_c (by decide)) 1).trans hj) (by omega) k9 ((congrFun (askM_c (by decide)) 2).trans hk9) (by omega) cs (by first | assumption | omega | (simp [sg_at]; assumption) | (simp [sg_at]; done)) (by first | assumption | omega | (simp [sg_at]; assumption) | (simp [sg_at]; done)) (by first | assumption | omega | (simp [sg_at]; assumption) | (simp [sg_at]; done))) ok_yX10_carryOutChange ml_RX10_81 (by decide) oX rfl hP hS hl.1 rfl (by decide) rfl rfl (Nat.le_of_ble_eq_true rfl) ⟨by decide, by decide⟩ hout hlocks dX10_beam_14 (fun E τ h => h) (fun r_3 τ_4 H locs hp_r_3 hP hS => ?_)
  have hcc := hp_r_3
  exact eIx S hr hlocks hP hS ⟨by decide, by decide⟩ dX10_beam_17 hcc

theorem ok_yX10_remove : COK RX10 yX10_remove cX10_remove 2 (some .int) 1 := ⟨im_yX10_remove, se_RX10_yX10_remove, in_RX10, co_yX10_remove, ⟨rfl, by decide +kernel, by decide +kernel, by decide +kernel⟩, by decide⟩
set_option maxHeartbeats 1000000 in
set_option maxRecDepth 100000 in
theorem c_X10_remove (l : Launch) {D : va_G} {ct : Nat → ClassId} {ek ad : Nat → Nat} {N0 : Nat} {X : va_W} {F : State → Prop} (σ : Mem) (x : Int32) (n : Nat) (mb : Nat) (hO : HOK σ 1 n mb) (j : Nat) (hj : σ 77 1 = nI j) (hj8 : j < 8) (k9 : Nat) (hk9 : σ 77 2 = nI k9) (hk8 : k9 ≤ 8) (cs : Nat → Nat) (hF : ∀ U, F U → FX ek cs N0 U) (hY : ∀ U, F U → FY U) (hlt : l.stackTraces = false) : MXi l yX10_remove cX10_remove 2 (some .int) 8 2 D ct ek ad N0 X F [.ref (ad 0), .int x] σ (fun r τ => CcR τ (askM σ 273 6 x 0 0) n mb 6 j k9 r) (fun E τ => E = "java/lang/UnsupportedOperationException" ∧ CcX τ (askM σ 273 6 x 0 0) n mb 6) := by
  refine ms0x (own := RX10) (by decide) rfl (Nat.le_of_ble_eq_true rfl) (fun p e s m args below meth c S hr hlocks hout G hP hS ls hl => ?_)
  have hx := S.1
  have hb := S.2.1
  replace hl : lv_has ls 2 [(0, .ref (ad 0)), (1, .int x)] := hl
  have FC := hF s G.2.2.2.2.2
  have FZ := hY s G.2.2.2.2.2
  have hn := hO.1
  have hn6 := hO.2.1
  have hB0 := hO.2.2.1
  have hm := hB0.1
  have hm6 := hB0.2.1
  refine lv_aload_n hx hb dX10_remove_0 rfl (lv_at hl 0 rfl) ?_
  refine gf S G hP 0 7 (by decide) oX rfl inX10 (by decide) fl_RX10_53 rfl rfl dX10_remove_1 ?_
  refine va_gets (A := fr N0) hx hb (FC.kn (j := 6) (by decide)) hS S.2.2.2.1 (S.2.2.2.2 _ fl_RX10_97) (fun _ h => h) dX10_remove_4 ?_
  refine lv_iload_n hx hb dX10_remove_7 rfl (lv_at hl 1 rfl) ?_
  refine lv_iconst (v := 0) hx hb dX10_remove_8 (by decide) ?_
  refine lv_iconst (v := 0) hx hb dX10_remove_9 (by decide) ?_
  refine cVve (As := [.ref (ek 6), .int x, .int 0, .int 0]) S G 273 (c_X3_ask l (D := D) (ct := ct) (ek := ek) (ad := ad) (N0 := N0) (X := X) (F := F) σ 273 isC273 6 (by decide) x 0 0) ok_yX3_ask ml_RX10_77 (isC_lt isC273) (oC isC273) rfl hP hS hl.1 rfl (by decide) rfl rfl (Nat.le_of_ble_eq_true rfl) ⟨by decide, by decide⟩ dX10_remove_10 (fun H locs hP hS => ?_)
  refine lv_aload_n hx hb dX10_remove_13 rfl (lv_at hl 0 rfl) ?_
  refine cXi (As := []) S G 0 (c_X10_carryOutChange l (D := D) (ct := ct) (ek := ek) (ad := ad) (N0 := N0) (X := X) (F := F) (askM σ 273 6 x 0 0) n mb (HOK_c (fun c h8 h9 => askM_c (by omega)) hO) 6 (by decide) askM_0 j ((congrFun (askM_c (by decide)) 1).trans hj) (by omega) k9 ((congrFun (askM_c (by decide)) 2).trans hk9) (by omega) cs (by first | assumption | omega | (simp [sg_at]; assumption) | (simp [sg_at]; done)) (by first | assumption | omega | (simp [sg_at]; assumption) | (simp [sg_at]; done)) (by first | assumption | omega | (simp [sg_at]; assumption) | (simp [sg_at]; done))) ok_yX10_carryOutChange ml_RX10_81 (by decide) oX rfl hP hS hl.1 rfl (by decide) rfl rfl (Nat.le_of_ble_eq_true rfl) ⟨by decide, by decide⟩ hout hlocks dX10_remove_14 (fun E τ h => h) (fun r_3 τ_4 H locs hp_r_3 hP hS => ?_)
  have hcc := hp_r_3
  exact eIx S hr hlocks hP hS ⟨by decide, by decide⟩ dX10_remove_17 hcc

theorem ok_yX10_habit : COK RX10 yX10_habit cX10_habit 3 (some .int) 2 := ⟨im_yX10_habit, se_RX10_yX10_habit, in_RX10, co_yX10_habit, ⟨rfl, by decide +kernel, by decide +kernel, by decide +kernel⟩, by decide⟩
set_option maxHeartbeats 1000000 in
set_option maxRecDepth 100000 in
theorem c_X10_habit (l : Launch) {D : va_G} {ct : Nat → ClassId} {ek ad : Nat → Nat} {N0 : Nat} {X : va_W} {F : State → Prop} (σ : Mem) (x : Int32) (y : Int32) (n : Nat) (mb : Nat) (hO : HOK σ 1 n mb) (j : Nat) (hj : σ 77 1 = nI j) (hj8 : j < 8) (k9 : Nat) (hk9 : σ 77 2 = nI k9) (hk8 : k9 ≤ 8) (cs : Nat → Nat) (hF : ∀ U, F U → FX ek cs N0 U) (hY : ∀ U, F U → FY U) (hlt : l.stackTraces = false) : MXi l yX10_habit cX10_habit 3 (some .int) 8 2 D ct ek ad N0 X F [.ref (ad 0), .int x, .int y] σ (fun r τ => CcR τ (askM σ 273 7 x y 0) n mb 7 j k9 r) (fun E τ => E = "java/lang/UnsupportedOperationException" ∧ CcX τ (askM σ 273 7 x y 0) n mb 7) := by
  refine ms0x (own := RX10) (by decide) rfl (Nat.le_of_ble_eq_true rfl) (fun p e s m args below meth c S hr hlocks hout G hP hS ls hl => ?_)
  have hx := S.1
  have hb := S.2.1
  replace hl : lv_has ls 3 [(0, .ref (ad 0)), (1, .int x), (2, .int y)] := hl
  have FC := hF s G.2.2.2.2.2
  have FZ := hY s G.2.2.2.2.2
  have hn := hO.1
  have hn6 := hO.2.1
  have hB0 := hO.2.2.1
  have hm := hB0.1
  have hm6 := hB0.2.1
  refine lv_aload_n hx hb dX10_habit_0 rfl (lv_at hl 0 rfl) ?_
  refine gf S G hP 0 7 (by decide) oX rfl inX10 (by decide) fl_RX10_53 rfl rfl dX10_habit_1 ?_
  refine va_gets (A := fr N0) hx hb (FC.kn (j := 7) (by decide)) hS S.2.2.2.1 (S.2.2.2.2 _ fl_RX10_100) (fun _ h => h) dX10_habit_4 ?_
  refine lv_iload_n hx hb dX10_habit_7 rfl (lv_at hl 1 rfl) ?_
  refine lv_iload_n hx hb dX10_habit_8 rfl (lv_at hl 2 rfl) ?_
  refine lv_iconst (v := 0) hx hb dX10_habit_9 (by decide) ?_
  refine cVve (As := [.ref (ek 7), .int x, .int y, .int 0]) S G 273 (c_X3_ask l (D := D) (ct := ct) (ek := ek) (ad := ad) (N0 := N0) (X := X) (F := F) σ 273 isC273 7 (by decide) x y 0) ok_yX3_ask ml_RX10_77 (isC_lt isC273) (oC isC273) rfl hP hS hl.1 rfl (by decide) rfl rfl (Nat.le_of_ble_eq_true rfl) ⟨by decide, by decide⟩ dX10_habit_10 (fun H locs hP hS => ?_)
  refine lv_aload_n hx hb dX10_habit_13 rfl (lv_at hl 0 rfl) ?_
  refine cXi (As := []) S G 0 (c_X10_carryOutChange l (D := D) (ct := ct) (ek := ek) (ad := ad) (N0 := N0) (X := X) (F := F) (askM σ 273 7 x y 0) n mb (HOK_c (fun c h8 h9 => askM_c (by omega)) hO) 7 (by decide) askM_0 j ((congrFun (askM_c (by decide)) 1).trans hj) (by omega) k9 ((congrFun (askM_c (by decide)) 2).trans hk9) (by omega) cs (by first | assumption | omega | (simp [sg_at]; assumption) | (simp [sg_at]; done)) (by first | assumption | omega | (simp [sg_at]; assumption) | (simp [sg_at]; done)) (by first | assumption | omega | (simp [sg_at]; assumption) | (simp [sg_at]; done))) ok_yX10_carryOutChange ml_RX10_81 (by decide) oX rfl hP hS hl.1 rfl (by decide) rfl rfl (Nat.le_of_ble_eq_true rfl) ⟨by decide, by decide⟩ hout hlocks dX10_habit_14 (fun E τ h => h) (fun r_3 τ_4 H locs hp_r_3 hP hS => ?_)
  have hcc := hp_r_3
  exact eIx S hr hlocks hP hS ⟨by decide, by decide⟩ dX10_habit_17 hcc

theorem ok_yX10_undo : COK RX10 yX10_undo cX10_undo 1 (some .int) 0 := ⟨im_yX10_undo, se_RX10_yX10_undo, in_RX10, co_yX10_undo, ⟨rfl, by decide +kernel, by decide +kernel, by decide +kernel⟩, by decide⟩
set_option maxHeartbeats 1000000 in
set_option maxRecDepth 100000 in
theorem c_X10_undo (l : Launch) {D : va_G} {ct : Nat → ClassId} {ek ad : Nat → Nat} {N0 : Nat} {X : va_W} {F : State → Prop} (σ : Mem) (j : Nat) (hj : σ 77 1 = nI j) (hj8 : j < 8) (k9 : Nat) (hk9 : σ 77 2 = nI k9) (hk8 : k9 ≤ 8) (hz : ∀ q, q < 8 → ZB σ (79 + 20 * q + 1 + 3)) (cs : Nat → Nat) (hF : ∀ U, F U → FX ek cs N0 U) (hY : ∀ U, F U → FY U) (hlt : l.stackTraces = false) : MXi l yX10_undo cX10_undo 1 (some .int) 6 1 D ct ek ad N0 X F [.ref (ad 0)] σ (fun r τ => UndQ τ σ j k9 ∧ undT k9 = 0 ∧ r = nI (k9 - 1)) (PXd ["java/lang/IllegalStateException"] (undT k9) (fun τ => τ = σ)) := by
  refine ms0x (own := RX10) (by decide) rfl (Nat.le_of_ble_eq_true rfl) (fun p e s m args below meth c S hr hlocks hout G hP hS ls hl => ?_)
  have hx := S.1
  have hb := S.2.1
  replace hl : lv_has ls 1 [(0, .ref (ad 0))] := hl
  have FC := hF s G.2.2.2.2.2
  have FZ := hY s G.2.2.2.2.2
  refine lv_aload_n hx hb dX10_undo_0 rfl (lv_at hl 0 rfl) ?_
  refine gf S G hP 0 5 (by decide) oX rfl inX10 (by decide) fl_RX10_39 rfl rfl dX10_undo_1 ?_
  refine gfN S G hP 77 2 (by decide) oHI rfl inX4 (by decide) nw_RX10_368 rfl rfl dX10_undo_4 ?_
  refine lv_if_ne (tgt := 21) hx hb dX10_undo_7 (by decide) (fun c_7 => ?_) (fun c_7 => ?_)
  · have h0 : ¬ k9 = 0 := fun z => c_7 (by rw [hk9, z]; exact nI_0)
    obtain ⟨k8, rfl⟩ : ∃ q, k9 = q + 1 := ⟨k9 - 1, by omega⟩
    refine lv_aload_n hx hb dX10_undo_21 rfl (lv_at hl 0 rfl) ?_
    refine gf S G hP 0 5 (by decide) oX rfl inX10 (by decide) fl_RX10_39 rfl rfl dX10_undo_22 ?_
    refine lv_aload_n hx hb dX10_undo_25 rfl (lv_at hl 0 rfl) ?_
    refine gf S G hP 0 0 (by decide) oX rfl inX10 (by decide) fl_RX10_10 rfl rfl dX10_undo_26 ?_
    refine cVv (As := [.ref (ad 1)]) S G 77 (c_X4_giveBack l (D := D) (ct := ct) (ek := ek) (ad := ad) (N0 := N0) (X := X) (F := F) σ 1 isH1 j hj hj8 k8 hk9 (by omega) (by omega) (hz _ (by omega))) ok_yX4_giveBack ml_RX10_374 (by decide) oHI rfl hP hS hl.1 rfl (by decide) rfl rfl (Nat.le_of_ble_eq_true rfl) ⟨by decide, by decide⟩ dX10_undo_29 (fun τ_2 H locs hp_r_1 hP hS => ?_)
    have hu : UndQ τ_2 σ j (k8 + 1) := hp_r_1
    obtain ⟨ρ, hρ1, hρ2⟩ := hp_r_1
    refine lv_aload_n hx hb dX10_undo_32 rfl (lv_at hl 0 rfl) ?_
    refine gf S G hP 0 5 (by decide) oX rfl inX10 (by decide) fl_RX10_39 rfl rfl dX10_undo_33 ?_
    refine gfN S G hP 77 2 (by decide) oHI rfl inX4 (by decide) nw_RX10_368 rfl rfl dX10_undo_36 ?_
    refine lv_tope (y := nI k8) (by rw [hρ2, sg_ss]) ?_
    exact eIx S hr hlocks hP hS ⟨by decide, by decide⟩ dX10_undo_39 ⟨hu, (by unfold undT; rw [if_neg h0]), rfl⟩
  · have h0 : k9 = 0 := by rw [hk9] at c_7; exact (nI_eq (by omega) (by omega)).mp c_7
    exact thSW (names := ["java/lang/RuntimeException", "java/lang/Exception"]) S G FC FZ hlt (List.mem_of_getElem? (i := 22) rfl) th_265_269 hP hS hl.1 hout hlocks rfl ⟨rfl, by decide⟩ (Nat.le_of_ble_eq_true rfl) ⟨by decide, by decide⟩ (PX1 rfl (by unfold undT; rw [if_pos h0])) dX10_undo_10 dX10_undo_13 dX10_undo_14 dX10_undo_17 dX10_undo_20

theorem ok_yX10_save : COK RX10 yX10_save cX10_save 1 (some .int) 0 := ⟨im_yX10_save, se_RX10_yX10_save, in_RX10, co_yX10_save, ⟨rfl, by decide +kernel, by decide +kernel, by decide +kernel⟩, by decide⟩
set_option maxHeartbeats 1000000 in
set_option maxRecDepth 100000 in
theorem c_X10_save (l : Launch) {D : va_G} {ct : Nat → ClassId} {ek ad : Nat → Nat} {N0 : Nat} {X : va_W} {F : State → Prop} (σ : Mem) (n : Nat) (mb : Nat) (hO : HOK σ 1 n mb) : MI l yX10_save cX10_save 1 (some .int) 3 D ct ek ad N0 X F [.ref (ad 0)] σ (fun r τ => SavQ τ σ ∧ r = σ (1 + 1) 7) := by
  refine ms0 (own := RX10) (by decide) rfl (Nat.le_of_ble_eq_true rfl) (fun p e s m args below meth c S hr hlocks hnm G hP hS ls hl => ?_)
  have hx := S.1
  have hb := S.2.1
  replace hl : lv_has ls 1 [(0, .ref (ad 0))] := hl
  have hn := hO.1
  have hn6 := hO.2.1
  have hB0 := hO.2.2.1
  have hm := hB0.1
  have hm6 := hB0.2.1
  refine lv_aload_n hx hb dX10_save_0 rfl (lv_at hl 0 rfl) ?_
  refine gf S G hP 0 2 (by decide) oX rfl inX10 (by decide) fl_RX10_19 rfl rfl dX10_save_1 ?_
  refine lv_aload_n hx hb dX10_save_4 rfl (lv_at hl 0 rfl) ?_
  refine gf S G hP 0 0 (by decide) oX rfl inX10 (by decide) fl_RX10_10 rfl rfl dX10_save_5 ?_
  refine cVv (As := [.ref (ad 1)]) S G 41 (c_X5_copyFrom l (D := D) (ct := ct) (ek := ek) (ad := ad) (N0 := N0) (X := X) (F := F) σ 41 isH41 1 isH1 (by first | assumption | omega | (simp [sg_at]; assumption) | (simp [sg_at]; done)) hO.2.2.2) ok_yX5_copyFrom ml_RX10_282 (isHl0 isH41) (oH isH41) rfl hP hS hl.1 rfl (by decide) rfl rfl (Nat.le_of_ble_eq_true rfl) ⟨Nat.zero_le _, Nat.zero_le _⟩ dX10_save_8 (fun τ_2 H locs hp_r_1 hP hS => ?_)
  have hc1 := hp_r_1
  refine lv_aload_n hx hb dX10_save_11 rfl (lv_at hl 0 rfl) ?_
  refine lv_iconst (v := 1) hx hb dX10_save_12 (by decide) ?_
  refine pf S G hP hS 0 9 (x := 1) tyX10 tyX10_ok nmX10 (by decide) oX rfl inX10 (by decide) fl_RX10_377 rfl rfl rfl rfl (Nat.le_of_ble_eq_true rfl) oX dX10_save_13 (fun H locs hP hS => ?_)
  refine lv_aload_n hx hb dX10_save_16 rfl (lv_at hl 0 rfl) ?_
  refine gf S G hP 0 0 (by decide) oX rfl inX10 (by decide) fl_RX10_10 rfl rfl dX10_save_17 ?_
  refine gfN S G hP 1 0 (isHl0 isH1) (oH isH1) rfl inX5 (by decide) nw_RX10_107 rfl rfl dX10_save_20 ?_
  refine gfN S G hP (1 + 1) 7 (isPl0 (isPH isH1)) (oP (isPH isH1)) rfl inX8 (by decide) nw_RX10_218 rfl rfl dX10_save_23 ?_
  refine lv_tope (y := σ (1 + 1) 7) (by rw [sg_n (by decide)]; exact congrFun (hc1.1 2 (by decide)) 7) ?_
  exact eI S hr hlocks hP hS dX10_save_26 ⟨⟨_, hc1, rfl⟩, rfl⟩

theorem ok_yX10_restore : COK RX10 yX10_restore cX10_restore 1 (some .int) 0 := ⟨im_yX10_restore, se_RX10_yX10_restore, in_RX10, co_yX10_restore, ⟨rfl, by decide +kernel, by decide +kernel, by decide +kernel⟩, by decide⟩
set_option maxHeartbeats 1000000 in
set_option maxRecDepth 100000 in
theorem c_X10_restore (l : Launch) {D : va_G} {ct : Nat → ClassId} {ek ad : Nat → Nat} {N0 : Nat} {X : va_W} {F : State → Prop} (σ : Mem) (hz : ZB σ (41 + 1 + 3)) (cs : Nat → Nat) (hF : ∀ U, F U → FX ek cs N0 U) (hY : ∀ U, F U → FY U) (hlt : l.stackTraces = false) : MXi l yX10_restore cX10_restore 1 (some .int) 6 1 D ct ek ad N0 X F [.ref (ad 0)] σ (fun r τ => RstQ τ σ ∧ rstT σ = 0 ∧ r = σ (41 + 1) 7) (PXd ["java/lang/IllegalStateException"] (rstT σ) (fun τ => τ = σ)) := by
  refine ms0x (own := RX10) (by decide) rfl (Nat.le_of_ble_eq_true rfl) (fun p e s m args below meth c S hr hlocks hout G hP hS ls hl => ?_)
  have hx := S.1
  have hb := S.2.1
  replace hl : lv_has ls 1 [(0, .ref (ad 0))] := hl
  have FC := hF s G.2.2.2.2.2
  have FZ := hY s G.2.2.2.2.2
  refine lv_aload_n hx hb dX10_restore_0 rfl (lv_at hl 0 rfl) ?_
  refine gf S G hP 0 9 (by decide) oX rfl inX10 (by decide) fl_RX10_377 rfl rfl dX10_restore_1 ?_
  refine lv_if_ne (tgt := 18) hx hb dX10_restore_4 (by decide) (fun c_4 => ?_) (fun c_4 => ?_)
  · refine lv_aload_n hx hb dX10_restore_18 rfl (lv_at hl 0 rfl) ?_
    refine gf S G hP 0 0 (by decide) oX rfl inX10 (by decide) fl_RX10_10 rfl rfl dX10_restore_19 ?_
    refine lv_aload_n hx hb dX10_restore_22 rfl (lv_at hl 0 rfl) ?_
    refine gf S G hP 0 2 (by decide) oX rfl inX10 (by decide) fl_RX10_19 rfl rfl dX10_restore_23 ?_
    refine cVv (As := [.ref (ad 41)]) S G 1 (c_X5_copyFrom l (D := D) (ct := ct) (ek := ek) (ad := ad) (N0 := N0) (X := X) (F := F) σ 1 isH1 41 isH41 (by first | assumption | omega | (simp [sg_at]; assumption) | (simp [sg_at]; done)) hz) ok_yX5_copyFrom ml_RX10_282 (isHl0 isH1) (oH isH1) rfl hP hS hl.1 rfl (by decide) rfl rfl (Nat.le_of_ble_eq_true rfl) ⟨by decide, by decide⟩ dX10_restore_26 (fun τ_2 H locs hp_r_1 hP hS => ?_)
    have hc1 := hp_r_1
    refine lv_aload_n hx hb dX10_restore_29 rfl (lv_at hl 0 rfl) ?_
    refine gf S G hP 0 5 (by decide) oX rfl inX10 (by decide) fl_RX10_39 rfl rfl dX10_restore_30 ?_
    refine cVve (As := []) S G 77 (c_X4_forget l (D := D) (ct := ct) (ek := ek) (ad := ad) (N0 := N0) (X := X) (F := F) τ_2) ok_yX4_forget ml_RX10_383 (by decide) oHI rfl hP hS hl.1 rfl (by decide) rfl rfl (Nat.le_of_ble_eq_true rfl) ⟨by decide, by decide⟩ dX10_restore_33 (fun H locs hP hS => ?_)
    refine lv_aload_n hx hb dX10_restore_36 rfl (lv_at hl 0 rfl) ?_
    refine gf S G hP 0 0 (by decide) oX rfl inX10 (by decide) fl_RX10_10 rfl rfl dX10_restore_37 ?_
    refine gfN S G hP 1 0 (isHl0 isH1) (oH isH1) rfl inX5 (by decide) nw_RX10_107 rfl rfl dX10_restore_40 ?_
    refine gfN S G hP (1 + 1) 7 (isPl0 (isPH isH1)) (oP (isPH isH1)) rfl inX8 (by decide) nw_RX10_218 rfl rfl dX10_restore_43 ?_
    refine lv_tope (y := σ (41 + 1) 7) (by rw [sg_n (by decide)]; exact hc1.2.2.2.1) ?_
    exact eIx S hr hlocks hP hS ⟨by decide, by decide⟩ dX10_restore_46 ⟨⟨_, hc1, rfl⟩, (by unfold rstT; rw [if_neg c_4]), rfl⟩
  · exact thSW (names := ["java/lang/RuntimeException", "java/lang/Exception"]) S G FC FZ hlt (List.mem_of_getElem? (i := 23) rfl) th_265_269 hP hS hl.1 hout hlocks rfl ⟨rfl, by decide⟩ (Nat.le_of_ble_eq_true rfl) ⟨by decide, by decide⟩ (PX1 rfl (by unfold rstT; rw [if_pos c_4])) dX10_restore_7 dX10_restore_10 dX10_restore_11 dX10_restore_14 dX10_restore_17

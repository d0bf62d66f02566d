/-! what the law asks (laid by wip/p43/spec_asks.py) -/
theorem cks_yL_asks : CKS yL_asks cL_asks 7 (some .long) 1 := ⟨sm_yL_asks, in_RL, co_yL_asks, ⟨by decide +kernel, by decide +kernel, by decide +kernel⟩, by decide⟩
set_option maxHeartbeats 40000000 in
set_option maxRecDepth 100000 in
theorem k_asks (l : Launch) {D : va_G} {ct : Nat → ClassId} {ek ad : Nat → Nat} {N0 : Nat} {X : va_W} {F : State → Prop} (cs : Nat → Nat) (hF : ∀ U, F U → FX ek cs N0 U) (hY : ∀ U, F U → FY U) (hlt : l.stackTraces = false) (μ : Mem) (hn0 : ¬ gn μ = 0) :
    MG l yL_asks (.code yL_asks cL_asks 7 (some .long)) 9 1000 D ct ek ad N0 X F [.ref (ad 0)] μ (gQl D ct ek ad N0 X (fun r ν => r = asA (μ 277) ∧ ν = lnS μ (lbN (μ 277)))) := by
  refine msG (own := RL) (by decide) rfl (Nat.le_of_ble_eq_true rfl) (fun p e s m args below meth c S hr hlocks G hP hS ls hl => ?_)
  have hx := S.1
  have hb := S.2.1
  replace hl : lv_has ls 7 [(0, .ref (ad 0))] := hl
  obtain ⟨σ0, -, C0⟩ := id hP
  have W0 := C0.gw
  have hn6 : gn μ ≤ 6 := W0.1.2.1
  have hm6 : gm μ ≤ 6 := W0.1.2.2.2.1
  have hnh : tN (μ 277 0) ≤ 6 := hn6
  have hLb := (lb_b W0).2
  refine lv_ldc2 (own := RL) (v := 31) hx hb S.2.2.2.1 (S.2.2.2.2 _ kl_RL_181) dL_asks_0 ?_
  refine lv_aload_n hx hb dL_asks_3 rfl (lv_at hl 0 rfl) ?_
  refine gcHd (As := [.ref (ad 0)]) 1 S G (g_meanTilt l cs hF hY hlt μ hn0) ckh_meanTilt ml_RL_183 hP hS hl.1 ⟨by decide, by decide⟩ rfl (by rfl) (Nat.le_of_ble_eq_true rfl) ⟨by omega, (by show _ ≤ 1000; omega), (by show _ ≤ 6 * 1000; omega)⟩ dL_asks_4 (fun r_1 ν_2 H locs hq_3 hP hS => ?_)
  obtain ⟨hq_3a, hq_3b⟩ := hq_3; subst r_1; subst ν_2
  refine gcSl (As := [.double (mtV (gn μ) (sumR (fun q => μ 277 (6 + 5 * q + 0)) 0 (gn μ)))]) 1 S G (k_doubleToLongBits_ccdee l cs hF hY hlt μ (mtV (gn μ) (sumR (fun q => μ 277 (6 + 5 * q + 0)) 0 (gn μ)))) cks_yJxe99ae_doubleToLongBits_ccdee ml_RL_186 hP hS hl.1 ⟨by decide, by decide⟩ rfl (by rfl) (Nat.le_of_ble_eq_true rfl) ⟨by omega, (by show _ ≤ 1000; omega), (by show _ ≤ 6 * 1000; omega)⟩ dL_asks_7 (fun r_4 ν_5 H locs hq_6 hP hS => ?_)
  obtain ⟨hq_6a, hq_6b⟩ := hq_6; subst r_4; subst ν_5
  refine lv_lmul hx hb dL_asks_10 ?_
  refine lv_aload_n hx hb dL_asks_11 rfl (lv_at hl 0 rfl) ?_
  refine gcHf (As := [.ref (ad 0)]) 2 S G (g_plumbShare l cs hF hY hlt μ hn0) ckh_plumbShare ml_RL_192 hP hS hl.1 ⟨by decide, by decide⟩ rfl (by rfl) (Nat.le_of_ble_eq_true rfl) ⟨by omega, (by show _ ≤ 1000; omega), (by show _ ≤ 6 * 1000; omega)⟩ dL_asks_12 (fun r_7 ν_8 H locs hq_9 hP hS => ?_)
  obtain ⟨hq_9a, hq_9b⟩ := hq_9; subst r_7; subst ν_8
  refine gcS (As := [.float (psV9 (gn μ) (plmR (fun q => μ 277 (6 + 5 * q + 0)) (gn μ)))]) 2 S G (k_floatToIntBits_5c35a l cs hF hY hlt μ (psV9 (gn μ) (plmR (fun q => μ 277 (6 + 5 * q + 0)) (gn μ)))) cks_yJxf58ca_floatToIntBits_5c35a ml_RL_195 hP hS hl.1 ⟨by decide, by decide⟩ rfl (by rfl) (Nat.le_of_ble_eq_true rfl) ⟨by omega, (by show _ ≤ 1000; omega), (by show _ ≤ 6 * 1000; omega)⟩ dL_asks_15 (fun r_10 ν_11 H locs hq_12 hP hS => ?_)
  obtain ⟨hq_12a, hq_12b⟩ := hq_12; subst r_10; subst ν_11
  refine lv_i2l (v := (f2iV (psV9 (gn μ) (plmR (fun q => μ 277 (6 + 5 * q + 0)) (gn μ)))).toInt64) hx hb dL_asks_18 rfl ?_
  refine lv_ladd hx hb dL_asks_19 ?_
  refine lv_lstore_n (lv' := [(1, .long (((31 : Int64) * (d2lV (mtV (gn μ) (sumR (fun q => μ 277 (6 + 5 * q + 0)) 0 (gn μ))))) + ((f2iV (psV9 (gn μ) (plmR (fun q => μ 277 (6 + 5 * q + 0)) (gn μ)))).toInt64))), (0, .ref (ad 0))]) hx hb dL_asks_20 rfl hl (by decide) rfl (fun ls hl => ?_)
  refine lv_aload_n hx hb dL_asks_21 rfl (lv_at hl 1 rfl) ?_
  refine lv_iconst (v := 0) hx hb dL_asks_22 (by decide) ?_
  refine gcH (As := [.ref (ad 0), .int 0]) 3 S G (g_account l cs hF hY hlt μ (0)) ckh_account ml_RL_201 hP hS hl.1 ⟨by decide, by decide⟩ rfl (by rfl) (Nat.le_of_ble_eq_true rfl) ⟨by omega, (by show _ ≤ 1000; omega), (by show _ ≤ 6 * 1000; omega)⟩ dL_asks_23 (fun r_13 ν_14 H locs hq_15 hP hS => ?_)
  obtain ⟨hq_15a, hq_15b⟩ := hq_15; subst r_13; subst ν_14
  refine lv_tope (y := nI (gn μ)) (acc0 W0) ?_
  refine lv_istore_n (lv' := [(3, .int (nI (gn μ))), (1, .long (((31 : Int64) * (d2lV (mtV (gn μ) (sumR (fun q => μ 277 (6 + 5 * q + 0)) 0 (gn μ))))) + ((f2iV (psV9 (gn μ) (plmR (fun q => μ 277 (6 + 5 * q + 0)) (gn μ)))).toInt64))), (0, .ref (ad 0))]) hx hb dL_asks_26 rfl hl (by decide) rfl (fun ls hl => ?_)
  refine lv_iconst (v := 0) hx hb dL_asks_27 (by decide) ?_
  refine lv_istore (lv' := [(4, .int 0), (3, .int (nI (gn μ))), (1, .long (((31 : Int64) * (d2lV (mtV (gn μ) (sumR (fun q => μ 277 (6 + 5 * q + 0)) 0 (gn μ))))) + ((f2iV (psV9 (gn μ) (plmR (fun q => μ 277 (6 + 5 * q + 0)) (gn μ)))).toInt64))), (0, .ref (ad 0))]) hx hb dL_asks_28 hl (by decide) rfl (fun ls hl => ?_)
  have key_30 : ∀ (d k : Nat), k + d = 9 → ∀ (H : Heap) (locs : List Loc) (ls : Array Slot), wG D ct ek ad X μ H → va_S (fr N0) s.heap H locs → lv_has ls 7 [(4, .int (nI k)), (3, .int (nI (gn μ))), (1, .long (as1 (μ 277) k)), (0, .ref (ad 0))] → W p l e (rmd 9 1000 (6 * 1000)) s m args below meth c H locs (1 * k + 3) (6 * (1 * k + 3)) (MQ below (gQl D ct ek ad N0 X (fun r ν => r = asA (μ 277) ∧ ν = lnS μ (lbN (μ 277)))) args s 1000 (6 * 1000) (fr N0)) (F0 m 30 ls []) := by
    intro d
    induction d with
    | zero =>
      intro k9 hk
      obtain rfl : 9 = k9 := by omega
      intro  H locs ls hP hS hl
      refine lv_iload hx hb dL_asks_30 (lv_at hl 0 rfl) ?_
      refine lv_bipush (v := 9) hx hb dL_asks_32 (by decide) ?_
      refine lv_icmp_ge (tgt := 57) hx hb dL_asks_34 (by decide) (fun c_34 => ?_) (fun c_34 => absurd (nI_le (a := 9) (b := 9) (by decide) (by decide)) c_34)
      refine lv_iconst (v := 0) hx hb dL_asks_57 (by decide) ?_
      refine lv_istore (lv' := [(4, .int 0), (3, .int (nI (gn μ))), (1, .long (as1 (μ 277) 9)), (0, .ref (ad 0))]) hx hb dL_asks_58 hl (by decide) rfl (fun ls hl => ?_)
      have key_60 : ∀ (d k : Nat), k + d = (gn μ) → ∀ (H : Heap) (locs : List Loc) (ls : Array Slot), wG D ct ek ad X (lg μ k) H → va_S (fr N0) s.heap H locs → lv_has ls 7 [(4, .int (nI k)), (3, .int (nI (gn μ))), (1, .long (as2 (μ 277) (gn μ) k)), (0, .ref (ad 0))] → W p l e (rmd 9 1000 (6 * 1000)) s m args below meth c H locs (110 * k + 12) (6 * (110 * k + 12)) (MQ below (gQl D ct ek ad N0 X (fun r ν => r = asA (μ 277) ∧ ν = lnS μ (lbN (μ 277)))) args s 1000 (6 * 1000) (fr N0)) (F0 m 60 ls []) := by
        intro d
        induction d with
        | zero =>
          intro k9 hk
          obtain rfl : (gn μ) = k9 := by omega
          intro  H locs ls hP hS hl
          have Wz : WF (lg μ (gn μ) 277) (gn μ) (gm μ) := by rw [lg_77]; exact W0
          refine lv_iload hx hb dL_asks_60 (lv_at hl 0 rfl) ?_
          refine lv_iload_n hx hb dL_asks_62 rfl (lv_at hl 1 rfl) ?_
          refine lv_icmp_ge (tgt := 253) hx hb dL_asks_63 (by decide) (fun c_63 => ?_) (fun c_63 => absurd (nI_le (by omega) (by omega)) c_63)
          refine lv_iconst (v := 0) hx hb dL_asks_253 (by decide) ?_
          refine lv_istore (lv' := [(4, .int 0), (3, .int (nI (gn μ))), (1, .long (as2 (μ 277) (gn μ) (gn μ))), (0, .ref (ad 0))]) hx hb dL_asks_254 hl (by decide) rfl (fun ls hl => ?_)
          have key_256 : ∀ (d k : Nat), k + d = (gm μ) → ∀ (H : Heap) (locs : List Loc) (ls : Array Slot), wG D ct ek ad X (lg μ (gn μ)) H → va_S (fr N0) s.heap H locs → lv_has ls 7 [(4, .int (nI k)), (3, .int (nI (gn μ))), (1, .long (as3 (μ 277) (gn μ) k)), (0, .ref (ad 0))] → W p l e (rmd 9 1000 (6 * 1000)) s m args below meth c H locs (20 * k + 680) (6 * (20 * k + 680)) (MQ below (gQl D ct ek ad N0 X (fun r ν => r = asA (μ 277) ∧ ν = lnS μ (lbN (μ 277)))) args s 1000 (6 * 1000) (fr N0)) (F0 m 256 ls []) := by
            intro d
            induction d with
            | zero =>
              intro k9 hk
              obtain rfl : (gm μ) = k9 := by omega
              intro  H locs ls hP hS hl
              refine lv_iload hx hb dL_asks_256 (lv_at hl 0 rfl) ?_
              refine lv_aload_n hx hb dL_asks_258 rfl (lv_at hl 3 rfl) ?_
              refine lv_iconst (v := 2) hx hb dL_asks_259 (by decide) ?_
              refine gcH (As := [.ref (ad 0), .int 2]) (20 * (gm μ) + 681) S G (g_account l cs hF hY hlt (lg μ (gn μ)) (2)) ckh_account ml_RL_201 hP hS hl.1 ⟨by decide, by decide⟩ rfl (by rfl) (Nat.le_of_ble_eq_true rfl) ⟨by omega, (by show _ ≤ 1000; omega), (by show _ ≤ 6 * 1000; omega)⟩ dL_asks_260 (fun r_16 ν_17 H locs hq_18 hP hS => ?_)
              obtain ⟨hq_18a, hq_18b⟩ := hq_18; subst r_16; subst ν_17
              refine lv_tope (y := nI (gm μ)) (acc2 Wz) ?_
              refine lv_icmp_ge (tgt := 329) hx hb dL_asks_263 (by decide) (fun c_263 => ?_) (fun c_263 => absurd (nI_le (by omega) (by omega)) c_263)
              refine lv_aload_n hx hb dL_asks_329 rfl (lv_at hl 3 rfl) ?_
              refine gcV (As := []) (fs := []) (gp := fun r ν => r = (bmsG (lg μ (gn μ))).1 ∧ ν = (bmsG (lg μ (gn μ))).2) S G 0 (post := fun σ r τ => r = wbM σ (1 + 15) (gm (lg μ (gn μ))) 274 1 ∧ τ = wbM σ (1 + 15) (gm (lg μ (gn μ)))) (fun σ C => c_X10_beams l σ _ _ C.go (bm_hk C)) (fun σ r τ C h => bms_q C h) ok_yX10_beams ml_RL_228 (by decide) oXe rfl hP hS hl.1 ⟨by decide, by decide⟩ rfl (by rfl) (Nat.le_of_ble_eq_true rfl) ⟨(by show _ ≤ 1000; omega), (by show _ ≤ 6 * 1000; omega)⟩ dL_asks_330 (fun r_19 ν_20 H locs hq_21 hP hS => ?_)
              obtain ⟨hq_21a, hq_21b⟩ := hq_21; subst r_19; subst ν_20
              replace hP := wG_e hP (show _ = lnS μ (lbN (μ 277)) from ((bms_1 Wz (lg_77 _)).2.trans (lg_l _)))
              refine lv_tope (y := nI (aLb (μ 277))) (bms_1 Wz (lg_77 _)).1 ?_
              refine lv_istore (lv' := [(4, .int (nI (aLb (μ 277)))), (3, .int (nI (gn μ))), (1, .long (as3 (μ 277) (gn μ) (gm μ))), (0, .ref (ad 0))]) hx hb dL_asks_333 hl (by decide) rfl (fun ls hl => ?_)
              refine lv_iconst (v := 0) hx hb dL_asks_335 (by decide) ?_
              refine lv_istore (lv' := [(5, .int 0), (4, .int (nI (aLb (μ 277)))), (3, .int (nI (gn μ))), (1, .long (as3 (μ 277) (gn μ) (gm μ))), (0, .ref (ad 0))]) hx hb dL_asks_336 hl (by decide) rfl (fun ls hl => ?_)
              have key_338 : ∀ (d k : Nat), k + d = (aLb (μ 277)) → ∀ (H : Heap) (locs : List Loc) (ls : Array Slot), wG D ct ek ad X (lnS μ (lbN (μ 277))) H → va_S (fr N0) s.heap H locs → lv_has ls 7 [(5, .int (nI k)), (4, .int (nI (aLb (μ 277)))), (3, .int (nI (gn μ))), (1, .long (ip5 (lbN (μ 277)) (as3 (μ 277) (gn μ) (gm μ)) k)), (0, .ref (ad 0))] → W p l e (rmd 9 1000 (6 * 1000)) s m args below meth c H locs (1 * k + 801) (6 * (1 * k + 801)) (MQ below (gQl D ct ek ad N0 X (fun r ν => r = asA (μ 277) ∧ ν = lnS μ (lbN (μ 277)))) args s 1000 (6 * 1000) (fr N0)) (F0 m 338 ls []) := by
                intro d
                induction d with
                | zero =>
                  intro k9 hk
                  obtain rfl : (aLb (μ 277)) = k9 := by omega
                  intro  H locs ls hP hS hl
                  refine lv_iload hx hb dL_asks_338 (lv_at hl 0 rfl) ?_
                  refine lv_iload hx hb dL_asks_340 (lv_at hl 1 rfl) ?_
                  refine lv_icmp_ge (tgt := 365) hx hb dL_asks_342 (by decide) (fun c_342 => ?_) (fun c_342 => absurd (nI_le (by omega) (by omega)) c_342)
                  refine lv_ldc2 (own := RL) (v := 31) hx hb S.2.2.2.1 (S.2.2.2.2 _ kl_RL_181) dL_asks_365 ?_
                  refine lv_ldc2 (own := RL) (v := 31) hx hb S.2.2.2.1 (S.2.2.2.2 _ kl_RL_181) dL_asks_368 ?_
                  refine lv_ldc2 (own := RL) (v := 31) hx hb S.2.2.2.1 (S.2.2.2.2 _ kl_RL_181) dL_asks_371 ?_
                  refine lv_lload_n hx hb dL_asks_374 rfl (lv_at hl 3 rfl) ?_
                  refine lv_lmul hx hb dL_asks_375 ?_
                  refine lv_aload_n hx hb dL_asks_376 rfl (lv_at hl 4 rfl) ?_
                  refine gcH (As := [.ref (ad 0)]) (1 * (aLb (μ 277)) + 802) S G (g_restsIn l cs hF hY hlt (lnS μ (lbN (μ 277)))) ckh_restsIn ml_RL_231 hP hS hl.1 ⟨by decide, by decide⟩ rfl (by rfl) (Nat.le_of_ble_eq_true rfl) ⟨by omega, (by show _ ≤ 1000; omega), (by show _ ≤ 6 * 1000; omega)⟩ dL_asks_377 (fun r_22 ν_23 H locs hq_24 hP hS => ?_)
                  obtain ⟨hq_24a, hq_24b⟩ := hq_24; subst r_22; subst ν_23
                  refine lv_tope (y := aRst (μ 277)) (vRst lnS_77) ?_
                  refine lv_i2l (v := (aRst (μ 277)).toInt64) hx hb dL_asks_380 rfl ?_
                  refine lv_ladd hx hb dL_asks_381 ?_
                  refine lv_lmul hx hb dL_asks_382 ?_
                  refine lv_aload_n hx hb dL_asks_383 rfl (lv_at hl 4 rfl) ?_
                  refine gcV (As := []) (fs := []) (gp := fun r ν => r = cmsV ((lnS μ (lbN (μ 277))) 277) (gn (lnS μ (lbN (μ 277)))) (gn (lnS μ (lbN (μ 277)))) ∧ ν = (lnS μ (lbN (μ 277)))) S G 0 (post := fun σ r τ => r = lowV σ (1 + 1) (gn (lnS μ (lbN (μ 277)))) (gn (lnS μ (lbN (μ 277)))) ∧ τ = σ) (fun σ C => c_X10_camps l σ _ _ C.go) (fun σ r τ C h => ⟨_, eqC C h.2, by rw [h.1, low_e C.gw C.gh], rfl⟩) ok_yX10_camps ml_RL_233 (by decide) oXe rfl hP hS hl.1 ⟨by decide, by decide⟩ rfl (by rfl) (Nat.le_of_ble_eq_true rfl) ⟨(by show _ ≤ 1000; omega), (by show _ ≤ 6 * 1000; omega)⟩ dL_asks_384 (fun r_25 ν_26 H locs hq_27 hP hS => ?_)
                  obtain ⟨hq_27a, hq_27b⟩ := hq_27; subst r_25; subst ν_26
                  refine lv_tope (y := aCps (μ 277)) (vCps lnS_77) ?_
                  refine lv_i2l (v := (aCps (μ 277)).toInt64) hx hb dL_asks_387 rfl ?_
                  refine lv_ladd hx hb dL_asks_388 ?_
                  refine lv_lmul hx hb dL_asks_389 ?_
                  refine lv_aload_n hx hb dL_asks_390 rfl (lv_at hl 4 rfl) ?_
                  refine lv_iconst (v := 1) hx hb dL_asks_391 (by decide) ?_
                  refine gcH (As := [.ref (ad 0), .int 1]) (1 * (aLb (μ 277)) + 803) S G (g_greatest l cs hF hY hlt (lnS μ (lbN (μ 277))) (1)) ckh_greatest ml_RL_236 hP hS hl.1 ⟨by decide, by decide⟩ rfl (by rfl) (Nat.le_of_ble_eq_true rfl) ⟨by omega, (by show _ ≤ 1000; omega), (by show _ ≤ 6 * 1000; omega)⟩ dL_asks_392 (fun r_28 ν_29 H locs hq_30 hP hS => ?_)
                  obtain ⟨hq_30a, hq_30b⟩ := hq_30; subst r_28; subst ν_29
                  refine lv_tope (y := aGre (μ 277) 1) (vGre lnS_77) ?_
                  refine lv_i2l (v := (aGre (μ 277) 1).toInt64) hx hb dL_asks_395 rfl ?_
                  refine lv_ladd hx hb dL_asks_396 ?_
                  exact eGl S hr hlocks hP hS ⟨by omega, by omega⟩ dL_asks_397 ⟨rfl, rfl⟩
                | succ d ih =>
                  intro k hk  H locs ls hP hS hl
                  have hkn : k < (aLb (μ 277)) := by omega
                  refine lv_iload hx hb dL_asks_338 (lv_at hl 0 rfl) ?_
                  refine lv_iload hx hb dL_asks_340 (lv_at hl 1 rfl) ?_
                  refine lv_icmp_ge (tgt := 365) hx hb dL_asks_342 (by decide) (fun c_342 => absurd c_342 (nI_ge (by omega) (by omega))) (fun c_342 => ?_)
                  refine lv_ldc2 (own := RL) (v := 31) hx hb S.2.2.2.1 (S.2.2.2.2 _ kl_RL_181) dL_asks_345 ?_
                  refine lv_lload_n hx hb dL_asks_348 rfl (lv_at hl 3 rfl) ?_
                  refine lv_lmul hx hb dL_asks_349 ?_
                  refine lv_aload_n hx hb dL_asks_350 rfl (lv_at hl 4 rfl) ?_
                  refine lv_iload hx hb dL_asks_351 (lv_at hl 0 rfl) ?_
                  refine gcH (As := [.ref (ad 0), .int (nI k)]) (1 * k + 802) S G (g_character l cs hF hY hlt (lnS μ (lbN (μ 277))) (nI k)) ckh_character ml_RL_159 hP hS hl.1 ⟨by decide, by decide⟩ rfl (by rfl) (Nat.le_of_ble_eq_true rfl) ⟨by omega, (by show _ ≤ 1000; omega), (by show _ ≤ 6 * 1000; omega)⟩ dL_asks_353 (fun r_31 ν_32 H locs hq_33 hP hS => ?_)
                  obtain ⟨hq_33a, hq_33b⟩ := hq_33; subst r_31; subst ν_32
                  refine lv_tope (y := aChr (lbN (μ 277)) (nI k)) vChr ?_
                  refine lv_i2l (v := (aChr (lbN (μ 277)) (nI k)).toInt64) hx hb dL_asks_356 rfl ?_
                  refine lv_ladd hx hb dL_asks_357 ?_
                  refine lv_lstore_n (lv' := [(1, .long (((31 : Int64) * (ip5 (lbN (μ 277)) (as3 (μ 277) (gn μ) (gm μ)) k)) + ((aChr (lbN (μ 277)) (nI k)).toInt64))), (5, .int (nI k)), (4, .int (nI (aLb (μ 277)))), (3, .int (nI (gn μ))), (0, .ref (ad 0))]) hx hb dL_asks_358 rfl hl (by decide) rfl (fun ls hl => ?_)
                  refine lv_iinc (v := nI (k + 1)) (lv' := [(5, .int (nI (k + 1))), (1, .long (((31 : Int64) * (ip5 (lbN (μ 277)) (as3 (μ 277) (gn μ) (gm μ)) k)) + ((aChr (lbN (μ 277)) (nI k)).toInt64))), (4, .int (nI (aLb (μ 277)))), (3, .int (nI (gn μ))), (0, .ref (ad 0))]) hx hb dL_asks_359 hl (k := 1) rfl (nI_inc _) (by decide) rfl (fun ls hl => ?_)
                  refine lv_goto (tgt := 338) hx hb dL_asks_362 (by decide) ?_
                  refine W.widen (k := (1 * (k + 1) + 801)) (n := 6 * (1 * (k + 1) + 801)) (by omega) (by omega) ?_
                  exact ih (k + 1) (by omega)  _ _ _ hP hS (lv_v (lv_sub (l' := [(5, .int (nI (k + 1))), (4, .int (nI (aLb (μ 277)))), (3, .int (nI (gn μ))), (1, .long (((31 : Int64) * (ip5 (lbN (μ 277)) (as3 (μ 277) (gn μ) (gm μ)) k)) + ((aChr (lbN (μ 277)) (nI k)).toInt64))), (0, .ref (ad 0))]) hl [0, 2, 3, 1, 4] rfl) rfl)
              refine W.widen (k := (1 * 0 + 801)) (n := 6 * (1 * 0 + 801)) (by omega) (by omega) ?_
              exact key_338 (aLb (μ 277)) 0 (by omega)  _ _ _ hP hS (lv_v (lv_sub (l' := [(5, .int 0), (4, .int (nI (aLb (μ 277)))), (3, .int (nI (gn μ))), (1, .long (as3 (μ 277) (gn μ) (gm μ))), (0, .ref (ad 0))]) hl [0, 1, 2, 3, 4] rfl) (by simp only [as1_0, as2_0, as3_0, ip1_0, ip2_0, ip5_0, jb1_0] <;> rfl))
            | succ d ih =>
              intro k hk  H locs ls hP hS hl
              have hkn : k < (gm μ) := by omega
              refine lv_iload hx hb dL_asks_256 (lv_at hl 0 rfl) ?_
              refine lv_aload_n hx hb dL_asks_258 rfl (lv_at hl 3 rfl) ?_
              refine lv_iconst (v := 2) hx hb dL_asks_259 (by decide) ?_
              refine gcH (As := [.ref (ad 0), .int 2]) (20 * k + 681) S G (g_account l cs hF hY hlt (lg μ (gn μ)) (2)) ckh_account ml_RL_201 hP hS hl.1 ⟨by decide, by decide⟩ rfl (by rfl) (Nat.le_of_ble_eq_true rfl) ⟨by omega, (by show _ ≤ 1000; omega), (by show _ ≤ 6 * 1000; omega)⟩ dL_asks_260 (fun r_34 ν_35 H locs hq_36 hP hS => ?_)
              obtain ⟨hq_36a, hq_36b⟩ := hq_36; subst r_34; subst ν_35
              refine lv_tope (y := nI (gm μ)) (acc2 Wz) ?_
              refine lv_icmp_ge (tgt := 329) hx hb dL_asks_263 (by decide) (fun c_263 => absurd c_263 (nI_ge (by omega) (by omega))) (fun c_263 => ?_)
              refine lv_iconst (v := 0) hx hb dL_asks_266 (by decide) ?_
              refine lv_istore (lv' := [(5, .int 0), (4, .int (nI k)), (3, .int (nI (gn μ))), (1, .long (as3 (μ 277) (gn μ) k)), (0, .ref (ad 0))]) hx hb dL_asks_267 hl (by decide) rfl (fun ls hl => ?_)
              have key_269 : ∀ (d2 t : Nat), t + d2 = 5 → ∀ (H : Heap) (locs : List Loc) (ls : Array Slot), wG D ct ek ad X (lg μ (gn μ)) H → va_S (fr N0) s.heap H locs → lv_has ls 7 [(5, .int (nI t)), (4, .int (nI k)), (3, .int (nI (gn μ))), (1, .long (jb1 (μ 277) k (as3 (μ 277) (gn μ) k) t)), (0, .ref (ad 0))] → W p l e (rmd 9 1000 (6 * 1000)) s m args below meth c H locs ((20 * k + 2 * t) + 681) (6 * ((20 * k + 2 * t) + 681)) (MQ below (gQl D ct ek ad N0 X (fun r ν => r = asA (μ 277) ∧ ν = lnS μ (lbN (μ 277)))) args s 1000 (6 * 1000) (fr N0)) (F0 m 269 ls []) := by
                intro d2
                induction d2 with
                | zero =>
                  intro k9 hk
                  obtain rfl : 5 = k9 := by omega
                  intro  H locs ls hP hS hl
                  refine lv_iload hx hb dL_asks_269 (lv_at hl 0 rfl) ?_
                  refine lv_iconst (v := 5) hx hb dL_asks_271 (by decide) ?_
                  refine lv_icmp_ge (tgt := 297) hx hb dL_asks_272 (by decide) (fun c_272 => ?_) (fun c_272 => absurd (nI_le (a := 5) (b := 5) (by decide) (by decide)) c_272)
                  refine lv_ldc2 (own := RL) (v := 31) hx hb S.2.2.2.1 (S.2.2.2.2 _ kl_RL_181) dL_asks_297 ?_
                  refine lv_ldc2 (own := RL) (v := 31) hx hb S.2.2.2.1 (S.2.2.2.2 _ kl_RL_181) dL_asks_300 ?_
                  refine lv_lload_n hx hb dL_asks_303 rfl (lv_at hl 3 rfl) ?_
                  refine lv_lmul hx hb dL_asks_304 ?_
                  refine lv_aload_n hx hb dL_asks_305 rfl (lv_at hl 4 rfl) ?_
                  refine lv_iload hx hb dL_asks_306 (lv_at hl 1 rfl) ?_
                  refine gcH (As := [.ref (ad 0), .int (nI k)]) ((20 * k + 2 * 5) + 683) S G (g_breaksIn l cs hF hY hlt (lg μ (gn μ)) (nI k)) ckh_breaksIn ml_RL_224 hP hS hl.1 ⟨by decide, by decide⟩ rfl (by rfl) (Nat.le_of_ble_eq_true rfl) ⟨by omega, (by show _ ≤ 1000; omega), (by show _ ≤ 6 * 1000; omega)⟩ dL_asks_308 (fun r_37 ν_38 H locs hq_39 hP hS => ?_)
                  obtain ⟨hq_39a, hq_39b⟩ := hq_39; subst r_37; subst ν_38
                  refine lv_tope (y := aBri (μ 277) (nI k)) (vBri (lg_77 _)) ?_
                  refine lv_i2l (v := (aBri (μ 277) (nI k)).toInt64) hx hb dL_asks_311 rfl ?_
                  refine lv_ladd hx hb dL_asks_312 ?_
                  refine lv_lmul hx hb dL_asks_313 ?_
                  refine lv_aload_n hx hb dL_asks_314 rfl (lv_at hl 4 rfl) ?_
                  refine lv_iload hx hb dL_asks_315 (lv_at hl 1 rfl) ?_
                  refine gcH (As := [.ref (ad 0), .int (nI k)]) ((20 * k + 2 * 5) + 684) S G (g_weakest l cs hF hY hlt (lg μ (gn μ)) (nI k)) ckh_weakest ml_RL_226 hP hS hl.1 ⟨by decide, by decide⟩ rfl (by rfl) (Nat.le_of_ble_eq_true rfl) ⟨by omega, (by show _ ≤ 1000; omega), (by show _ ≤ 6 * 1000; omega)⟩ dL_asks_317 (fun r_40 ν_41 H locs hq_42 hP hS => ?_)
                  obtain ⟨hq_42a, hq_42b⟩ := hq_42; subst r_40; subst ν_41
                  refine lv_tope (y := aWea (μ 277) (nI k)) (vWea (lg_77 _)) ?_
                  refine lv_i2l (v := (aWea (μ 277) (nI k)).toInt64) hx hb dL_asks_320 rfl ?_
                  refine lv_ladd hx hb dL_asks_321 ?_
                  refine lv_lstore_n (lv' := [(1, .long (((31 : Int64) * (((31 : Int64) * (jb1 (μ 277) k (as3 (μ 277) (gn μ) k) 5)) + ((aBri (μ 277) (nI k)).toInt64))) + ((aWea (μ 277) (nI k)).toInt64))), (5, .int (nI 5)), (4, .int (nI k)), (3, .int (nI (gn μ))), (0, .ref (ad 0))]) hx hb dL_asks_322 rfl hl (by decide) rfl (fun ls hl => ?_)
                  refine lv_iinc (v := nI (k + 1)) (lv' := [(4, .int (nI (k + 1))), (1, .long (((31 : Int64) * (((31 : Int64) * (jb1 (μ 277) k (as3 (μ 277) (gn μ) k) 5)) + ((aBri (μ 277) (nI k)).toInt64))) + ((aWea (μ 277) (nI k)).toInt64))), (5, .int (nI 5)), (3, .int (nI (gn μ))), (0, .ref (ad 0))]) hx hb dL_asks_323 hl (k := 2) rfl (nI_inc _) (by decide) rfl (fun ls hl => ?_)
                  refine lv_goto (tgt := 256) hx hb dL_asks_326 (by decide) ?_
                  refine W.widen (k := (20 * (k + 1) + 680)) (n := 6 * (20 * (k + 1) + 680)) (by omega) (by omega) ?_
                  exact ih (k + 1) (by omega)  _ _ _ hP hS (lv_v (lv_sub (l' := [(4, .int (nI (k + 1))), (3, .int (nI (gn μ))), (1, .long (((31 : Int64) * (((31 : Int64) * (jb1 (μ 277) k (as3 (μ 277) (gn μ) k) 5)) + ((aBri (μ 277) (nI k)).toInt64))) + ((aWea (μ 277) (nI k)).toInt64))), (0, .ref (ad 0))]) hl [0, 3, 1, 4] rfl) (by simp only [as3_s, jb9] <;> rfl))
                | succ d2 ih =>
                  intro t hk  H locs ls hP hS hl
                  have htn : t < 5 := by omega
                  refine lv_iload hx hb dL_asks_269 (lv_at hl 0 rfl) ?_
                  refine lv_iconst (v := 5) hx hb dL_asks_271 (by decide) ?_
                  refine lv_icmp_ge (tgt := 297) hx hb dL_asks_272 (by decide) (fun c_272 => absurd c_272 (nI_ge (b := 5) (by omega) (by decide))) (fun c_272 => ?_)
                  refine lv_ldc2 (own := RL) (v := 31) hx hb S.2.2.2.1 (S.2.2.2.2 _ kl_RL_181) dL_asks_275 ?_
                  refine lv_lload_n hx hb dL_asks_278 rfl (lv_at hl 3 rfl) ?_
                  refine lv_lmul hx hb dL_asks_279 ?_
                  refine lv_aload_n hx hb dL_asks_280 rfl (lv_at hl 4 rfl) ?_
                  refine lv_iload hx hb dL_asks_281 (lv_at hl 1 rfl) ?_
                  refine lv_iload hx hb dL_asks_283 (lv_at hl 0 rfl) ?_
                  refine gcH (As := [.ref (ad 0), .int (nI k), .int (nI t)]) ((20 * k + 2 * t) + 683) S G (g_beamOf l cs hF hY hlt (lg μ (gn μ)) (nI k) (nI t)) ckh_beamOf ml_RL_222 hP hS hl.1 ⟨by decide, by decide⟩ rfl (by rfl) (Nat.le_of_ble_eq_true rfl) ⟨by omega, (by show _ ≤ 1000; omega), (by show _ ≤ 6 * 1000; omega)⟩ dL_asks_285 (fun r_43 ν_44 H locs hq_45 hP hS => ?_)
                  obtain ⟨hq_45a, hq_45b⟩ := hq_45; subst r_43; subst ν_44
                  refine lv_tope (y := aBof (μ 277) (nI k) (nI t)) (vBof (lg_77 _)) ?_
                  refine lv_i2l (v := (aBof (μ 277) (nI k) (nI t)).toInt64) hx hb dL_asks_288 rfl ?_
                  refine lv_ladd hx hb dL_asks_289 ?_
                  refine lv_lstore_n (lv' := [(1, .long (((31 : Int64) * (jb1 (μ 277) k (as3 (μ 277) (gn μ) k) t)) + ((aBof (μ 277) (nI k) (nI t)).toInt64))), (5, .int (nI t)), (4, .int (nI k)), (3, .int (nI (gn μ))), (0, .ref (ad 0))]) hx hb dL_asks_290 rfl hl (by decide) rfl (fun ls hl => ?_)
                  refine lv_iinc (v := nI (t + 1)) (lv' := [(5, .int (nI (t + 1))), (1, .long (((31 : Int64) * (jb1 (μ 277) k (as3 (μ 277) (gn μ) k) t)) + ((aBof (μ 277) (nI k) (nI t)).toInt64))), (4, .int (nI k)), (3, .int (nI (gn μ))), (0, .ref (ad 0))]) hx hb dL_asks_291 hl (k := 1) rfl (nI_inc _) (by decide) rfl (fun ls hl => ?_)
                  refine lv_goto (tgt := 269) hx hb dL_asks_294 (by decide) ?_
                  refine W.widen (k := ((20 * k + 2 * (t + 1)) + 681)) (n := 6 * ((20 * k + 2 * (t + 1)) + 681)) (by omega) (by omega) ?_
                  exact ih (t + 1) (by omega)  _ _ _ hP hS (lv_v (lv_sub (l' := [(5, .int (nI (t + 1))), (4, .int (nI k)), (3, .int (nI (gn μ))), (1, .long (((31 : Int64) * (jb1 (μ 277) k (as3 (μ 277) (gn μ) k) t)) + ((aBof (μ 277) (nI k) (nI t)).toInt64))), (0, .ref (ad 0))]) hl [0, 2, 3, 1, 4] rfl) rfl)
              refine W.widen (k := ((20 * k + 2 * 0) + 681)) (n := 6 * ((20 * k + 2 * 0) + 681)) (by omega) (by omega) ?_
              exact key_269 5 0 (by omega)  _ _ _ hP hS (lv_v (lv_sub (l' := [(5, .int 0), (4, .int (nI k)), (3, .int (nI (gn μ))), (1, .long (as3 (μ 277) (gn μ) k)), (0, .ref (ad 0))]) hl [0, 1, 2, 3, 4] rfl) (by simp only [as1_0, as2_0, as3_0, ip1_0, ip2_0, ip5_0, jb1_0] <;> rfl))
          refine W.widen (k := (20 * 0 + 680)) (n := 6 * (20 * 0 + 680)) (by omega) (by omega) ?_
          exact key_256 (gm μ) 0 (by omega)  _ _ _ hP hS (lv_v (lv_sub (l' := [(4, .int 0), (3, .int (nI (gn μ))), (1, .long (as2 (μ 277) (gn μ) (gn μ))), (0, .ref (ad 0))]) hl [0, 1, 2, 3] rfl) (by simp only [as1_0, as2_0, as3_0, ip1_0, ip2_0, ip5_0, jb1_0] <;> rfl))
        | succ d ih =>
          intro k hk  H locs ls hP hS hl
          have hkn : k < (gn μ) := by omega
          have hg := lg_77 (μ := μ) k
          have Wk : WF (lg μ k 277) (gn μ) (gm μ) := by rw [hg]; exact W0
          have hLn := (ln_b (p := k) (μ 277) hnh).2
          refine lv_iload hx hb dL_asks_60 (lv_at hl 0 rfl) ?_
          refine lv_iload_n hx hb dL_asks_62 rfl (lv_at hl 1 rfl) ?_
          refine lv_icmp_ge (tgt := 253) hx hb dL_asks_63 (by decide) (fun c_63 => absurd c_63 (nI_ge (by omega) (by omega))) (fun c_63 => ?_)
          refine lv_iconst (v := 0) hx hb dL_asks_66 (by decide) ?_
          refine lv_istore (lv' := [(5, .int 0), (4, .int (nI k)), (3, .int (nI (gn μ))), (1, .long (as2 (μ 277) (gn μ) k)), (0, .ref (ad 0))]) hx hb dL_asks_67 hl (by decide) rfl (fun ls hl => ?_)
          have key_69 : ∀ (d2 t : Nat), t + d2 = 8 → ∀ (H : Heap) (locs : List Loc) (ls : Array Slot), wG D ct ek ad X (lg μ k) H → va_S (fr N0) s.heap H locs → lv_has ls 7 [(5, .int (nI t)), (4, .int (nI k)), (3, .int (nI (gn μ))), (1, .long (ip1 (μ 277) k (as2 (μ 277) (gn μ) k) t)), (0, .ref (ad 0))] → W p l e (rmd 9 1000 (6 * 1000)) s m args below meth c H locs (((110 * k + 12) + 2 * t) + 0) (6 * (((110 * k + 12) + 2 * t) + 0)) (MQ below (gQl D ct ek ad N0 X (fun r ν => r = asA (μ 277) ∧ ν = lnS μ (lbN (μ 277)))) args s 1000 (6 * 1000) (fr N0)) (F0 m 69 ls []) := by
            intro d2
            induction d2 with
            | zero =>
              intro k9 hk
              obtain rfl : 8 = k9 := by omega
              intro  H locs ls hP hS hl
              refine lv_iload hx hb dL_asks_69 (lv_at hl 0 rfl) ?_
              refine lv_bipush (v := 8) hx hb dL_asks_71 (by decide) ?_
              refine lv_icmp_ge (tgt := 98) hx hb dL_asks_73 (by decide) (fun c_73 => ?_) (fun c_73 => absurd (nI_le (a := 8) (b := 8) (by decide) (by decide)) c_73)
              refine lv_iconst (v := 0) hx hb dL_asks_98 (by decide) ?_
              refine lv_istore (lv' := [(5, .int 0), (4, .int (nI k)), (3, .int (nI (gn μ))), (1, .long (ip1 (μ 277) k (as2 (μ 277) (gn μ) k) 8)), (0, .ref (ad 0))]) hx hb dL_asks_99 hl (by decide) rfl (fun ls hl => ?_)
              have key_101 : ∀ (d2 t : Nat), t + d2 = (gn μ) → ∀ (H : Heap) (locs : List Loc) (ls : Array Slot), wG D ct ek ad X (lg μ k) H → va_S (fr N0) s.heap H locs → lv_has ls 7 [(5, .int (nI t)), (4, .int (nI k)), (3, .int (nI (gn μ))), (1, .long (ip2 (μ 277) k (ip1 (μ 277) k (as2 (μ 277) (gn μ) k) 8) t)), (0, .ref (ad 0))] → W p l e (rmd 9 1000 (6 * 1000)) s m args below meth c H locs (((110 * k + 12) + 2 * t) + 16) (6 * (((110 * k + 12) + 2 * t) + 16)) (MQ below (gQl D ct ek ad N0 X (fun r ν => r = asA (μ 277) ∧ ν = lnS μ (lbN (μ 277)))) args s 1000 (6 * 1000) (fr N0)) (F0 m 101 ls []) := by
                intro d2
                induction d2 with
                | zero =>
                  intro k9 hk
                  obtain rfl : (gn μ) = k9 := by omega
                  intro  H locs ls hP hS hl
                  refine lv_iload hx hb dL_asks_101 (lv_at hl 0 rfl) ?_
                  refine lv_iload_n hx hb dL_asks_103 rfl (lv_at hl 2 rfl) ?_
                  refine lv_icmp_ge (tgt := 129) hx hb dL_asks_104 (by decide) (fun c_104 => ?_) (fun c_104 => absurd (nI_le (by omega) (by omega)) c_104)
                  refine lv_ldc2 (own := RL) (v := 31) hx hb S.2.2.2.1 (S.2.2.2.2 _ kl_RL_181) dL_asks_129 ?_
                  refine lv_ldc2 (own := RL) (v := 31) hx hb S.2.2.2.1 (S.2.2.2.2 _ kl_RL_181) dL_asks_132 ?_
                  refine lv_ldc2 (own := RL) (v := 31) hx hb S.2.2.2.1 (S.2.2.2.2 _ kl_RL_181) dL_asks_135 ?_
                  refine lv_ldc2 (own := RL) (v := 31) hx hb S.2.2.2.1 (S.2.2.2.2 _ kl_RL_181) dL_asks_138 ?_
                  refine lv_lload_n hx hb dL_asks_141 rfl (lv_at hl 3 rfl) ?_
                  refine lv_lmul hx hb dL_asks_142 ?_
                  refine lv_aload_n hx hb dL_asks_143 rfl (lv_at hl 4 rfl) ?_
                  refine lv_iload hx hb dL_asks_144 (lv_at hl 1 rfl) ?_
                  refine gcH (As := [.ref (ad 0), .int (nI k)]) (((110 * k + 12) + 2 * (gn μ)) + 17) S G (g_mean l cs hF hY hlt (lg μ k) (nI k)) ckh_mean ml_RL_208 hP hS hl.1 ⟨by decide, by decide⟩ rfl (by rfl) (Nat.le_of_ble_eq_true rfl) ⟨by omega, (by show _ ≤ 1000; omega), (by show _ ≤ 6 * 1000; omega)⟩ dL_asks_146 (fun r_46 ν_47 H locs hq_48 hP hS => ?_)
                  obtain ⟨hq_48a, hq_48b⟩ := hq_48; subst r_46; subst ν_47
                  refine lv_tope (y := aMean (μ 277) (nI k)) (vMean hg) ?_
                  refine lv_i2l (v := (aMean (μ 277) (nI k)).toInt64) hx hb dL_asks_149 rfl ?_
                  refine lv_ladd hx hb dL_asks_150 ?_
                  refine lv_lmul hx hb dL_asks_151 ?_
                  refine lv_aload_n hx hb dL_asks_152 rfl (lv_at hl 4 rfl) ?_
                  refine lv_iload hx hb dL_asks_153 (lv_at hl 1 rfl) ?_
                  refine gcH (As := [.ref (ad 0), .int (nI k)]) (((110 * k + 12) + 2 * (gn μ)) + 18) S G (g_camp l cs hF hY hlt (lg μ k) (nI k)) ckh_camp ml_RL_210 hP hS hl.1 ⟨by decide, by decide⟩ rfl (by rfl) (Nat.le_of_ble_eq_true rfl) ⟨by omega, (by show _ ≤ 1000; omega), (by show _ ≤ 6 * 1000; omega)⟩ dL_asks_155 (fun r_49 ν_50 H locs hq_51 hP hS => ?_)
                  obtain ⟨hq_51a, hq_51b⟩ := hq_51; subst r_49; subst ν_50
                  refine lv_tope (y := aCamp (μ 277) (nI k)) (vCamp hg) ?_
                  refine lv_i2l (v := (aCamp (μ 277) (nI k)).toInt64) hx hb dL_asks_158 rfl ?_
                  refine lv_ladd hx hb dL_asks_159 ?_
                  refine lv_lmul hx hb dL_asks_160 ?_
                  refine lv_aload_n hx hb dL_asks_161 rfl (lv_at hl 4 rfl) ?_
                  refine lv_iload hx hb dL_asks_162 (lv_at hl 1 rfl) ?_
                  refine lv_bipush (v := 7) hx hb dL_asks_164 (by decide) ?_
                  refine gcH (As := [.ref (ad 0), .int (nI k), .int 7]) (((110 * k + 12) + 2 * (gn μ)) + 20) S G (g_tiltIn l cs hF hY hlt (lg μ k) (nI k) (7)) ckh_tiltIn ml_RL_212 hP hS hl.1 ⟨by decide, by decide⟩ rfl (by rfl) (Nat.le_of_ble_eq_true rfl) ⟨by omega, (by show _ ≤ 1000; omega), (by show _ ≤ 6 * 1000; omega)⟩ dL_asks_166 (fun r_52 ν_53 H locs hq_54 hP hS => ?_)
                  obtain ⟨hq_54a, hq_54b⟩ := hq_54; subst r_52; subst ν_53
                  refine lv_tope (y := aTin (μ 277) (nI k) 7) (vTin hg) ?_
                  refine lv_i2l (v := (aTin (μ 277) (nI k) 7).toInt64) hx hb dL_asks_169 rfl ?_
                  refine lv_ladd hx hb dL_asks_170 ?_
                  refine lv_lmul hx hb dL_asks_171 ?_
                  refine lv_aload_n hx hb dL_asks_172 rfl (lv_at hl 4 rfl) ?_
                  refine lv_iconst (v := 1) hx hb dL_asks_173 (by decide) ?_
                  refine lv_iload hx hb dL_asks_174 (lv_at hl 1 rfl) ?_
                  refine gcH (As := [.ref (ad 0), .int 1, .int (nI k)]) (((110 * k + 12) + 2 * (gn μ)) + 21) S G (g_ranked l cs hF hY hlt (lg μ k) (1) (nI k)) ckh_ranked ml_RL_214 hP hS hl.1 ⟨by decide, by decide⟩ rfl (by rfl) (Nat.le_of_ble_eq_true rfl) ⟨by omega, (by show _ ≤ 1000; omega), (by show _ ≤ 6 * 1000; omega)⟩ dL_asks_176 (fun r_55 ν_56 H locs hq_57 hP hS => ?_)
                  obtain ⟨hq_57a, hq_57b⟩ := hq_57; subst r_55; subst ν_56
                  refine lv_tope (y := aRan (μ 277) 1 (nI k)) (vRan hg) ?_
                  refine lv_i2l (v := (aRan (μ 277) 1 (nI k)).toInt64) hx hb dL_asks_179 rfl ?_
                  refine lv_ladd hx hb dL_asks_180 ?_
                  refine lv_lstore_n (lv' := [(1, .long (((31 : Int64) * (((31 : Int64) * (((31 : Int64) * (((31 : Int64) * (ip2 (μ 277) k (ip1 (μ 277) k (as2 (μ 277) (gn μ) k) 8) (gn μ))) + ((aMean (μ 277) (nI k)).toInt64))) + ((aCamp (μ 277) (nI k)).toInt64))) + ((aTin (μ 277) (nI k) 7).toInt64))) + ((aRan (μ 277) 1 (nI k)).toInt64))), (5, .int (nI (gn μ))), (4, .int (nI k)), (3, .int (nI (gn μ))), (0, .ref (ad 0))]) hx hb dL_asks_181 rfl hl (by decide) rfl (fun ls hl => ?_)
                  refine lv_ldc2 (own := RL) (v := 31) hx hb S.2.2.2.1 (S.2.2.2.2 _ kl_RL_181) dL_asks_182 ?_
                  refine lv_ldc2 (own := RL) (v := 31) hx hb S.2.2.2.1 (S.2.2.2.2 _ kl_RL_181) dL_asks_185 ?_
                  refine lv_lload_n hx hb dL_asks_188 rfl (lv_at hl 0 rfl) ?_
                  refine lv_lmul hx hb dL_asks_189 ?_
                  refine lv_aload_n hx hb dL_asks_190 rfl (lv_at hl 4 rfl) ?_
                  refine lv_iload hx hb dL_asks_191 (lv_at hl 2 rfl) ?_
                  refine gcH (As := [.ref (ad 0), .int (nI k)]) (((110 * k + 12) + 2 * (gn μ)) + 23) S G (g_puller l cs hF hY hlt (lg μ k) (nI k)) ckh_puller ml_RL_216 hP hS hl.1 ⟨by decide, by decide⟩ rfl (by rfl) (Nat.le_of_ble_eq_true rfl) ⟨by omega, (by show _ ≤ 1000; omega), (by show _ ≤ 6 * 1000; omega)⟩ dL_asks_193 (fun r_58 ν_59 H locs hq_60 hP hS => ?_)
                  obtain ⟨hq_60a, hq_60b⟩ := hq_60; subst r_58; subst ν_59
                  refine lv_tope (y := aPul (μ 277) (nI k)) (vPul hg) ?_
                  refine lv_i2l (v := (aPul (μ 277) (nI k)).toInt64) hx hb dL_asks_196 rfl ?_
                  refine lv_ladd hx hb dL_asks_197 ?_
                  refine lv_lmul hx hb dL_asks_198 ?_
                  refine lv_aload_n hx hb dL_asks_199 rfl (lv_at hl 4 rfl) ?_
                  refine lv_iload hx hb dL_asks_200 (lv_at hl 2 rfl) ?_
                  refine lv_iconst (v := 4) hx hb dL_asks_202 (by decide) ?_
                  refine gcH (As := [.ref (ad 0), .int (nI k), .int 4]) (((110 * k + 12) + 2 * (gn μ)) + 26) S G (g_factsFor l cs hF hY hlt (lg μ k) (nI k) (4)) ckh_factsFor ml_RL_218 hP hS hl.1 ⟨by decide, by decide⟩ rfl (by rfl) (Nat.le_of_ble_eq_true rfl) ⟨by omega, (by show _ ≤ 1000; omega), (by show _ ≤ 6 * 1000; omega)⟩ dL_asks_203 (fun r_61 ν_62 H locs hq_63 hP hS => ?_)
                  obtain ⟨hq_63a, hq_63b⟩ := hq_63; subst r_61; subst ν_62
                  refine lv_tope (y := aFac (μ 277) (nI k) 4) (vFac hg) ?_
                  refine lv_i2l (v := (aFac (μ 277) (nI k) 4).toInt64) hx hb dL_asks_206 rfl ?_
                  refine lv_ladd hx hb dL_asks_207 ?_
                  refine lv_lstore_n (lv' := [(1, .long (((31 : Int64) * (((31 : Int64) * (((31 : Int64) * (((31 : Int64) * (((31 : Int64) * (((31 : Int64) * (ip2 (μ 277) k (ip1 (μ 277) k (as2 (μ 277) (gn μ) k) 8) (gn μ))) + ((aMean (μ 277) (nI k)).toInt64))) + ((aCamp (μ 277) (nI k)).toInt64))) + ((aTin (μ 277) (nI k) 7).toInt64))) + ((aRan (μ 277) 1 (nI k)).toInt64))) + ((aPul (μ 277) (nI k)).toInt64))) + ((aFac (μ 277) (nI k) 4).toInt64))), (5, .int (nI (gn μ))), (4, .int (nI k)), (3, .int (nI (gn μ))), (0, .ref (ad 0))]) hx hb dL_asks_208 rfl hl (by decide) rfl (fun ls hl => ?_)
                  refine lv_aload_n hx hb dL_asks_209 rfl (lv_at hl 4 rfl) ?_
                  refine lv_iload hx hb dL_asks_210 (lv_at hl 2 rfl) ?_
                  refine gcH (As := [.ref (ad 0), .int (nI k)]) (((110 * k + 12) + 2 * (gn μ)) + 27) S G (g_line l cs hF hY hlt (lg μ k) (nI k)) ckh_line ml_RL_220 hP hS hl.1 ⟨by decide, by decide⟩ rfl (by rfl) (Nat.le_of_ble_eq_true rfl) ⟨by omega, (by show _ ≤ 1000; omega), (by show _ ≤ 6 * 1000; omega)⟩ dL_asks_212 (fun r_64 ν_65 H locs hq_66 hP hS => ?_)
                  obtain ⟨hq_66a, hq_66b⟩ := hq_66; subst r_64; subst ν_65
                  replace hP := wG_e hP (show _ = lnS μ (lpM (μ 277) k) from ((lin_1 Wk hg hkn).2.trans (lg_l k)))
                  refine lv_tope (y := nI (aLn (μ 277) k)) (lin_1 Wk hg hkn).1 ?_
                  refine lv_istore (lv' := [(5, .int (nI (aLn (μ 277) k))), (1, .long (((31 : Int64) * (((31 : Int64) * (((31 : Int64) * (((31 : Int64) * (((31 : Int64) * (((31 : Int64) * (ip2 (μ 277) k (ip1 (μ 277) k (as2 (μ 277) (gn μ) k) 8) (gn μ))) + ((aMean (μ 277) (nI k)).toInt64))) + ((aCamp (μ 277) (nI k)).toInt64))) + ((aTin (μ 277) (nI k) 7).toInt64))) + ((aRan (μ 277) 1 (nI k)).toInt64))) + ((aPul (μ 277) (nI k)).toInt64))) + ((aFac (μ 277) (nI k) 4).toInt64))), (4, .int (nI k)), (3, .int (nI (gn μ))), (0, .ref (ad 0))]) hx hb dL_asks_215 hl (by decide) rfl (fun ls hl => ?_)
                  refine lv_iconst (v := 0) hx hb dL_asks_217 (by decide) ?_
                  refine lv_istore (lv' := [(6, .int 0), (5, .int (nI (aLn (μ 277) k))), (1, .long (((31 : Int64) * (((31 : Int64) * (((31 : Int64) * (((31 : Int64) * (((31 : Int64) * (((31 : Int64) * (ip2 (μ 277) k (ip1 (μ 277) k (as2 (μ 277) (gn μ) k) 8) (gn μ))) + ((aMean (μ 277) (nI k)).toInt64))) + ((aCamp (μ 277) (nI k)).toInt64))) + ((aTin (μ 277) (nI k) 7).toInt64))) + ((aRan (μ 277) 1 (nI k)).toInt64))) + ((aPul (μ 277) (nI k)).toInt64))) + ((aFac (μ 277) (nI k) 4).toInt64))), (4, .int (nI k)), (3, .int (nI (gn μ))), (0, .ref (ad 0))]) hx hb dL_asks_218 hl (by decide) rfl (fun ls hl => ?_)
                  have key_220 : ∀ (d2 t : Nat), t + d2 = (aLn (μ 277) k) → ∀ (H : Heap) (locs : List Loc) (ls : Array Slot), wG D ct ek ad X (lnS μ (lpM (μ 277) k)) H → va_S (fr N0) s.heap H locs → lv_has ls 7 [(6, .int (nI t)), (5, .int (nI (aLn (μ 277) k))), (1, .long (ip5 (lpM (μ 277) k) (ip4 (μ 277) k (ip3 (μ 277) k (ip2 (μ 277) k (ip1 (μ 277) k (as2 (μ 277) (gn μ) k) 8) (gn μ)))) t)), (4, .int (nI k)), (3, .int (nI (gn μ))), (0, .ref (ad 0))] → W p l e (rmd 9 1000 (6 * 1000)) s m args below meth c H locs (((110 * k + 12) + 1 * t) + 50) (6 * (((110 * k + 12) + 1 * t) + 50)) (MQ below (gQl D ct ek ad N0 X (fun r ν => r = asA (μ 277) ∧ ν = lnS μ (lbN (μ 277)))) args s 1000 (6 * 1000) (fr N0)) (F0 m 220 ls []) := by
                    intro d2
                    induction d2 with
                    | zero =>
                      intro k9 hk
                      obtain rfl : (aLn (μ 277) k) = k9 := by omega
                      intro  H locs ls hP hS hl
                      refine lv_iload hx hb dL_asks_220 (lv_at hl 0 rfl) ?_
                      refine lv_iload hx hb dL_asks_222 (lv_at hl 1 rfl) ?_
                      refine lv_icmp_ge (tgt := 247) hx hb dL_asks_224 (by decide) (fun c_224 => ?_) (fun c_224 => absurd (nI_le (by omega) (by omega)) c_224)
                      refine lv_iinc (v := nI (k + 1)) (lv' := [(4, .int (nI (k + 1))), (6, .int (nI (aLn (μ 277) k))), (5, .int (nI (aLn (μ 277) k))), (1, .long (ip5 (lpM (μ 277) k) (ip4 (μ 277) k (ip3 (μ 277) k (ip2 (μ 277) k (ip1 (μ 277) k (as2 (μ 277) (gn μ) k) 8) (gn μ)))) (aLn (μ 277) k))), (3, .int (nI (gn μ))), (0, .ref (ad 0))]) hx hb dL_asks_247 hl (k := 3) rfl (nI_inc _) (by decide) rfl (fun ls hl => ?_)
                      refine lv_goto (tgt := 60) hx hb dL_asks_250 (by decide) ?_
                      refine W.widen (k := (110 * (k + 1) + 12)) (n := 6 * (110 * (k + 1) + 12)) (by omega) (by omega) ?_
                      exact ih (k + 1) (by omega)  _ _ _ hP hS (lv_v (lv_sub (l' := [(4, .int (nI (k + 1))), (3, .int (nI (gn μ))), (1, .long (ip5 (lpM (μ 277) k) (ip4 (μ 277) k (ip3 (μ 277) k (ip2 (μ 277) k (ip1 (μ 277) k (as2 (μ 277) (gn μ) k) 8) (gn μ)))) (aLn (μ 277) k))), (0, .ref (ad 0))]) hl [0, 4, 3, 5] rfl) (by simp only [as2_s, ip9, ip4, ip3] <;> rfl))
                    | succ d2 ih =>
                      intro t hk  H locs ls hP hS hl
                      have htn : t < (aLn (μ 277) k) := by omega
                      refine lv_iload hx hb dL_asks_220 (lv_at hl 0 rfl) ?_
                      refine lv_iload hx hb dL_asks_222 (lv_at hl 1 rfl) ?_
                      refine lv_icmp_ge (tgt := 247) hx hb dL_asks_224 (by decide) (fun c_224 => absurd c_224 (nI_ge (by omega) (by omega))) (fun c_224 => ?_)
                      refine lv_ldc2 (own := RL) (v := 31) hx hb S.2.2.2.1 (S.2.2.2.2 _ kl_RL_181) dL_asks_227 ?_
                      refine lv_lload_n hx hb dL_asks_230 rfl (lv_at hl 2 rfl) ?_
                      refine lv_lmul hx hb dL_asks_231 ?_
                      refine lv_aload_n hx hb dL_asks_232 rfl (lv_at hl 5 rfl) ?_
                      refine lv_iload hx hb dL_asks_233 (lv_at hl 0 rfl) ?_
                      refine gcH (As := [.ref (ad 0), .int (nI t)]) (((110 * k + 12) + 1 * t) + 51) S G (g_character l cs hF hY hlt (lnS μ (lpM (μ 277) k)) (nI t)) ckh_character ml_RL_159 hP hS hl.1 ⟨by decide, by decide⟩ rfl (by rfl) (Nat.le_of_ble_eq_true rfl) ⟨by omega, (by show _ ≤ 1000; omega), (by show _ ≤ 6 * 1000; omega)⟩ dL_asks_235 (fun r_67 ν_68 H locs hq_69 hP hS => ?_)
                      obtain ⟨hq_69a, hq_69b⟩ := hq_69; subst r_67; subst ν_68
                      refine lv_tope (y := aChr (lpM (μ 277) k) (nI t)) vChr ?_
                      refine lv_i2l (v := (aChr (lpM (μ 277) k) (nI t)).toInt64) hx hb dL_asks_238 rfl ?_
                      refine lv_ladd hx hb dL_asks_239 ?_
                      refine lv_lstore_n (lv' := [(1, .long (((31 : Int64) * (ip5 (lpM (μ 277) k) (ip4 (μ 277) k (ip3 (μ 277) k (ip2 (μ 277) k (ip1 (μ 277) k (as2 (μ 277) (gn μ) k) 8) (gn μ)))) t)) + ((aChr (lpM (μ 277) k) (nI t)).toInt64))), (6, .int (nI t)), (5, .int (nI (aLn (μ 277) k))), (4, .int (nI k)), (3, .int (nI (gn μ))), (0, .ref (ad 0))]) hx hb dL_asks_240 rfl hl (by decide) rfl (fun ls hl => ?_)
                      refine lv_iinc (v := nI (t + 1)) (lv' := [(6, .int (nI (t + 1))), (1, .long (((31 : Int64) * (ip5 (lpM (μ 277) k) (ip4 (μ 277) k (ip3 (μ 277) k (ip2 (μ 277) k (ip1 (μ 277) k (as2 (μ 277) (gn μ) k) 8) (gn μ)))) t)) + ((aChr (lpM (μ 277) k) (nI t)).toInt64))), (5, .int (nI (aLn (μ 277) k))), (4, .int (nI k)), (3, .int (nI (gn μ))), (0, .ref (ad 0))]) hx hb dL_asks_241 hl (k := 1) rfl (nI_inc _) (by decide) rfl (fun ls hl => ?_)
                      refine lv_goto (tgt := 220) hx hb dL_asks_244 (by decide) ?_
                      refine W.widen (k := (((110 * k + 12) + 1 * (t + 1)) + 50)) (n := 6 * (((110 * k + 12) + 1 * (t + 1)) + 50)) (by omega) (by omega) ?_
                      exact ih (t + 1) (by omega)  _ _ _ hP hS (lv_v (lv_sub (l' := [(6, .int (nI (t + 1))), (5, .int (nI (aLn (μ 277) k))), (1, .long (((31 : Int64) * (ip5 (lpM (μ 277) k) (ip4 (μ 277) k (ip3 (μ 277) k (ip2 (μ 277) k (ip1 (μ 277) k (as2 (μ 277) (gn μ) k) 8) (gn μ)))) t)) + ((aChr (lpM (μ 277) k) (nI t)).toInt64))), (4, .int (nI k)), (3, .int (nI (gn μ))), (0, .ref (ad 0))]) hl [0, 2, 1, 3, 4, 5] rfl) rfl)
                  refine W.widen (k := (((110 * k + 12) + 1 * 0) + 50)) (n := 6 * (((110 * k + 12) + 1 * 0) + 50)) (by omega) (by omega) ?_
                  exact key_220 (aLn (μ 277) k) 0 (by omega)  _ _ _ hP hS (lv_v (lv_sub (l' := [(6, .int 0), (5, .int (nI (aLn (μ 277) k))), (1, .long (((31 : Int64) * (((31 : Int64) * (((31 : Int64) * (((31 : Int64) * (((31 : Int64) * (((31 : Int64) * (ip2 (μ 277) k (ip1 (μ 277) k (as2 (μ 277) (gn μ) k) 8) (gn μ))) + ((aMean (μ 277) (nI k)).toInt64))) + ((aCamp (μ 277) (nI k)).toInt64))) + ((aTin (μ 277) (nI k) 7).toInt64))) + ((aRan (μ 277) 1 (nI k)).toInt64))) + ((aPul (μ 277) (nI k)).toInt64))) + ((aFac (μ 277) (nI k) 4).toInt64))), (4, .int (nI k)), (3, .int (nI (gn μ))), (0, .ref (ad 0))]) hl [0, 1, 2, 3, 4, 5] rfl) (by simp only [as1_0, as2_0, as3_0, ip1_0, ip2_0, ip5_0, jb1_0] <;> rfl))
                | succ d2 ih =>
                  intro t hk  H locs ls hP hS hl
                  have htn : t < (gn μ) := by omega
                  refine lv_iload hx hb dL_asks_101 (lv_at hl 0 rfl) ?_
                  refine lv_iload_n hx hb dL_asks_103 rfl (lv_at hl 2 rfl) ?_
                  refine lv_icmp_ge (tgt := 129) hx hb dL_asks_104 (by decide) (fun c_104 => absurd c_104 (nI_ge (by omega) (by omega))) (fun c_104 => ?_)
                  refine lv_ldc2 (own := RL) (v := 31) hx hb S.2.2.2.1 (S.2.2.2.2 _ kl_RL_181) dL_asks_107 ?_
                  refine lv_lload_n hx hb dL_asks_110 rfl (lv_at hl 3 rfl) ?_
                  refine lv_lmul hx hb dL_asks_111 ?_
                  refine lv_aload_n hx hb dL_asks_112 rfl (lv_at hl 4 rfl) ?_
                  refine lv_iload hx hb dL_asks_113 (lv_at hl 1 rfl) ?_
                  refine lv_iload hx hb dL_asks_115 (lv_at hl 0 rfl) ?_
                  refine gcH (As := [.ref (ad 0), .int (nI k), .int (nI t)]) (((110 * k + 12) + 2 * t) + 18) S G (g_weight l cs hF hY hlt (lg μ k) (nI k) (nI t)) ckh_weight ml_RL_206 hP hS hl.1 ⟨by decide, by decide⟩ rfl (by rfl) (Nat.le_of_ble_eq_true rfl) ⟨by omega, (by show _ ≤ 1000; omega), (by show _ ≤ 6 * 1000; omega)⟩ dL_asks_117 (fun r_70 ν_71 H locs hq_72 hP hS => ?_)
                  obtain ⟨hq_72a, hq_72b⟩ := hq_72; subst r_70; subst ν_71
                  refine lv_tope (y := aWgt (μ 277) (nI k) (nI t)) (vWgt hg) ?_
                  refine lv_i2l (v := (aWgt (μ 277) (nI k) (nI t)).toInt64) hx hb dL_asks_120 rfl ?_
                  refine lv_ladd hx hb dL_asks_121 ?_
                  refine lv_lstore_n (lv' := [(1, .long (((31 : Int64) * (ip2 (μ 277) k (ip1 (μ 277) k (as2 (μ 277) (gn μ) k) 8) t)) + ((aWgt (μ 277) (nI k) (nI t)).toInt64))), (5, .int (nI t)), (4, .int (nI k)), (3, .int (nI (gn μ))), (0, .ref (ad 0))]) hx hb dL_asks_122 rfl hl (by decide) rfl (fun ls hl => ?_)
                  refine lv_iinc (v := nI (t + 1)) (lv' := [(5, .int (nI (t + 1))), (1, .long (((31 : Int64) * (ip2 (μ 277) k (ip1 (μ 277) k (as2 (μ 277) (gn μ) k) 8) t)) + ((aWgt (μ 277) (nI k) (nI t)).toInt64))), (4, .int (nI k)), (3, .int (nI (gn μ))), (0, .ref (ad 0))]) hx hb dL_asks_123 hl (k := 1) rfl (nI_inc _) (by decide) rfl (fun ls hl => ?_)
                  refine lv_goto (tgt := 101) hx hb dL_asks_126 (by decide) ?_
                  refine W.widen (k := (((110 * k + 12) + 2 * (t + 1)) + 16)) (n := 6 * (((110 * k + 12) + 2 * (t + 1)) + 16)) (by omega) (by omega) ?_
                  exact ih (t + 1) (by omega)  _ _ _ hP hS (lv_v (lv_sub (l' := [(5, .int (nI (t + 1))), (4, .int (nI k)), (3, .int (nI (gn μ))), (1, .long (((31 : Int64) * (ip2 (μ 277) k (ip1 (μ 277) k (as2 (μ 277) (gn μ) k) 8) t)) + ((aWgt (μ 277) (nI k) (nI t)).toInt64))), (0, .ref (ad 0))]) hl [0, 2, 3, 1, 4] rfl) rfl)
              refine W.widen (k := (((110 * k + 12) + 2 * 0) + 16)) (n := 6 * (((110 * k + 12) + 2 * 0) + 16)) (by omega) (by omega) ?_
              exact key_101 (gn μ) 0 (by omega)  _ _ _ hP hS (lv_v (lv_sub (l' := [(5, .int 0), (4, .int (nI k)), (3, .int (nI (gn μ))), (1, .long (ip1 (μ 277) k (as2 (μ 277) (gn μ) k) 8)), (0, .ref (ad 0))]) hl [0, 1, 2, 3, 4] rfl) (by simp only [as1_0, as2_0, as3_0, ip1_0, ip2_0, ip5_0, jb1_0] <;> rfl))
            | succ d2 ih =>
              intro t hk  H locs ls hP hS hl
              have htn : t < 8 := by omega
              refine lv_iload hx hb dL_asks_69 (lv_at hl 0 rfl) ?_
              refine lv_bipush (v := 8) hx hb dL_asks_71 (by decide) ?_
              refine lv_icmp_ge (tgt := 98) hx hb dL_asks_73 (by decide) (fun c_73 => absurd c_73 (nI_ge (b := 8) (by omega) (by decide))) (fun c_73 => ?_)
              refine lv_ldc2 (own := RL) (v := 31) hx hb S.2.2.2.1 (S.2.2.2.2 _ kl_RL_181) dL_asks_76 ?_
              refine lv_lload_n hx hb dL_asks_79 rfl (lv_at hl 3 rfl) ?_
              refine lv_lmul hx hb dL_asks_80 ?_
              refine lv_aload_n hx hb dL_asks_81 rfl (lv_at hl 4 rfl) ?_
              refine lv_iload hx hb dL_asks_82 (lv_at hl 1 rfl) ?_
              refine lv_iload hx hb dL_asks_84 (lv_at hl 0 rfl) ?_
              refine gcH (As := [.ref (ad 0), .int (nI k), .int (nI t)]) (((110 * k + 12) + 2 * t) + 2) S G (g_of l cs hF hY hlt (lg μ k) (nI k) (nI t)) ckh_of ml_RL_203 hP hS hl.1 ⟨by decide, by decide⟩ rfl (by rfl) (Nat.le_of_ble_eq_true rfl) ⟨by omega, (by show _ ≤ 1000; omega), (by show _ ≤ 6 * 1000; omega)⟩ dL_asks_86 (fun r_73 ν_74 H locs hq_75 hP hS => ?_)
              obtain ⟨hq_75a, hq_75b⟩ := hq_75; subst r_73; subst ν_74
              refine lv_tope (y := aOf (μ 277) (nI k) (nI t)) (vOf hg) ?_
              refine lv_i2l (v := (aOf (μ 277) (nI k) (nI t)).toInt64) hx hb dL_asks_89 rfl ?_
              refine lv_ladd hx hb dL_asks_90 ?_
              refine lv_lstore_n (lv' := [(1, .long (((31 : Int64) * (ip1 (μ 277) k (as2 (μ 277) (gn μ) k) t)) + ((aOf (μ 277) (nI k) (nI t)).toInt64))), (5, .int (nI t)), (4, .int (nI k)), (3, .int (nI (gn μ))), (0, .ref (ad 0))]) hx hb dL_asks_91 rfl hl (by decide) rfl (fun ls hl => ?_)
              refine lv_iinc (v := nI (t + 1)) (lv' := [(5, .int (nI (t + 1))), (1, .long (((31 : Int64) * (ip1 (μ 277) k (as2 (μ 277) (gn μ) k) t)) + ((aOf (μ 277) (nI k) (nI t)).toInt64))), (4, .int (nI k)), (3, .int (nI (gn μ))), (0, .ref (ad 0))]) hx hb dL_asks_92 hl (k := 1) rfl (nI_inc _) (by decide) rfl (fun ls hl => ?_)
              refine lv_goto (tgt := 69) hx hb dL_asks_95 (by decide) ?_
              refine W.widen (k := (((110 * k + 12) + 2 * (t + 1)) + 0)) (n := 6 * (((110 * k + 12) + 2 * (t + 1)) + 0)) (by omega) (by omega) ?_
              exact ih (t + 1) (by omega)  _ _ _ hP hS (lv_v (lv_sub (l' := [(5, .int (nI (t + 1))), (4, .int (nI k)), (3, .int (nI (gn μ))), (1, .long (((31 : Int64) * (ip1 (μ 277) k (as2 (μ 277) (gn μ) k) t)) + ((aOf (μ 277) (nI k) (nI t)).toInt64))), (0, .ref (ad 0))]) hl [0, 2, 3, 1, 4] rfl) rfl)
          refine W.widen (k := (((110 * k + 12) + 2 * 0) + 0)) (n := 6 * (((110 * k + 12) + 2 * 0) + 0)) (by omega) (by omega) ?_
          exact key_69 8 0 (by omega)  _ _ _ hP hS (lv_v (lv_sub (l' := [(5, .int 0), (4, .int (nI k)), (3, .int (nI (gn μ))), (1, .long (as2 (μ 277) (gn μ) k)), (0, .ref (ad 0))]) hl [0, 1, 2, 3, 4] rfl) (by simp only [as1_0, as2_0, as3_0, ip1_0, ip2_0, ip5_0, jb1_0] <;> rfl))
      refine W.widen (k := (110 * 0 + 12)) (n := 6 * (110 * 0 + 12)) (by omega) (by omega) ?_
      exact key_60 (gn μ) 0 (by omega)  _ _ _ hP hS (lv_v (lv_sub (l' := [(4, .int 0), (3, .int (nI (gn μ))), (1, .long (as1 (μ 277) 9)), (0, .ref (ad 0))]) hl [0, 1, 2, 3] rfl) (by simp only [as1_0, as2_0, as3_0, ip1_0, ip2_0, ip5_0, jb1_0] <;> rfl))
    | succ d ih =>
      intro k hk  H locs ls hP hS hl
      have hkn : k < 9 := by omega
      refine lv_iload hx hb dL_asks_30 (lv_at hl 0 rfl) ?_
      refine lv_bipush (v := 9) hx hb dL_asks_32 (by decide) ?_
      refine lv_icmp_ge (tgt := 57) hx hb dL_asks_34 (by decide) (fun c_34 => absurd c_34 (nI_ge (b := 9) (by omega) (by decide))) (fun c_34 => ?_)
      refine lv_ldc2 (own := RL) (v := 31) hx hb S.2.2.2.1 (S.2.2.2.2 _ kl_RL_181) dL_asks_37 ?_
      refine lv_lload_n hx hb dL_asks_40 rfl (lv_at hl 2 rfl) ?_
      refine lv_lmul hx hb dL_asks_41 ?_
      refine lv_aload_n hx hb dL_asks_42 rfl (lv_at hl 3 rfl) ?_
      refine lv_iload hx hb dL_asks_43 (lv_at hl 0 rfl) ?_
      refine gcH (As := [.ref (ad 0), .int (nI k)]) (1 * k + 4) S G (g_account l cs hF hY hlt μ (nI k)) ckh_account ml_RL_201 hP hS hl.1 ⟨by decide, by decide⟩ rfl (by rfl) (Nat.le_of_ble_eq_true rfl) ⟨by omega, (by show _ ≤ 1000; omega), (by show _ ≤ 6 * 1000; omega)⟩ dL_asks_45 (fun r_76 ν_77 H locs hq_78 hP hS => ?_)
      obtain ⟨hq_78a, hq_78b⟩ := hq_78; subst r_76; subst ν_77
      refine lv_tope (y := aAcc (μ 277) (nI k)) (vAcc rfl hkn) ?_
      refine lv_i2l (v := (aAcc (μ 277) (nI k)).toInt64) hx hb dL_asks_48 rfl ?_
      refine lv_ladd hx hb dL_asks_49 ?_
      refine lv_lstore_n (lv' := [(1, .long (((31 : Int64) * (as1 (μ 277) k)) + ((aAcc (μ 277) (nI k)).toInt64))), (4, .int (nI k)), (3, .int (nI (gn μ))), (0, .ref (ad 0))]) hx hb dL_asks_50 rfl hl (by decide) rfl (fun ls hl => ?_)
      refine lv_iinc (v := nI (k + 1)) (lv' := [(4, .int (nI (k + 1))), (1, .long (((31 : Int64) * (as1 (μ 277) k)) + ((aAcc (μ 277) (nI k)).toInt64))), (3, .int (nI (gn μ))), (0, .ref (ad 0))]) hx hb dL_asks_51 hl (k := 1) rfl (nI_inc _) (by decide) rfl (fun ls hl => ?_)
      refine lv_goto (tgt := 30) hx hb dL_asks_54 (by decide) ?_
      refine W.widen (k := (1 * (k + 1) + 3)) (n := 6 * (1 * (k + 1) + 3)) (by omega) (by omega) ?_
      exact ih (k + 1) (by omega)  _ _ _ hP hS (lv_v (lv_sub (l' := [(4, .int (nI (k + 1))), (3, .int (nI (gn μ))), (1, .long (((31 : Int64) * (as1 (μ 277) k)) + ((aAcc (μ 277) (nI k)).toInt64))), (0, .ref (ad 0))]) hl [0, 2, 1, 3] rfl) rfl)
  refine W.widen (k := (1 * 0 + 3)) (n := 6 * (1 * 0 + 3)) (by omega) (by omega) ?_
  exact key_30 9 0 (by omega)  _ _ _ hP hS (lv_sub hl [0, 1, 2, 3] rfl)

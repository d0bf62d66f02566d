/-! all that is refused (laid by wip/p43/spec_refused.py) -/
theorem lnS_W {μ ρ : Mem} {n m : Nat} (W : WF (μ 277) n m) : WF (lnS μ ρ 277) n m := by rw [lnS_77]; exact W
theorem rf_L {μ ν : Mem} (R : RF μ ν) (hL : μ 276 11 = 0) : gL ν = 0 := by rw [R.2.n.2.2.2]; show tN (μ 276 11) = 0; rw [hL]; decide
theorem lg_rf {x : Int64} : lg_cmp x x = 0 := by unfold lg_cmp; simp
theorem rk_z {μ ν : Mem} {w : Int32} (R : RF μ ν) (hn : gn μ ≤ 6) : rkS (ν 277) (gn ν) w (nI (gn μ)) < 0 := by rw [R.2.n.1]; exact ran_n hn
theorem wk_z {μ ν : Mem} (R : RF μ ν) (hm : gm μ ≤ 6) : wkS (ν 277) (gm ν) (nI (gm μ)) < 0 := by rw [R.2.n.2.1]; exact wea_n hm
theorem ln_1 {ν : Mem} {x : Int32} (h : one1 ν x = 0) : (linG ν x).1 = -1001 := by unfold linG; rw [if_pos h]
theorem ln_2 {ν : Mem} {x : Int32} (h : one1 ν x = 0) : (linG ν x).2 = ν := by unfold linG; rw [if_pos h]
theorem cks_yL_refused : CKS yL_refused cL_refused 8 (some .boolean) 1 := ⟨sm_yL_refused, in_RL, co_yL_refused, ⟨by decide +kernel, by decide +kernel, by decide +kernel⟩, by decide⟩
set_option maxHeartbeats 40000000 in
set_option maxRecDepth 100000 in
theorem k_refused (l : Launch) {D : va_G} {ct : Nat → ClassId} {ek ad : Nat → Nat} {N0 : Nat} {X : va_W} {F : State → Prop} (cs : Nat → Nat) (hF : ∀ U, F U → FX ek cs N0 U) (hY : ∀ U, F U → FY U) (hlt : l.stackTraces = false) (μ : Mem) (dg : Nat) (hZ : ∀ U, F U → SBF dg N0 U) (hCX : ∀ U, F U → CX ct U) (h2 : 2 ≤ gn μ) (hL1 : μ 276 11 = 0) :
    MG l yL_refused (.code yL_refused cL_refused 8 (some .boolean)) 10 3400 D ct ek ad N0 X F [.ref (ad 0)] μ (gQi D ct ek ad N0 X (fun r ν => r = 1 ∧ CoE ν μ)) := by
  refine msG (own := RL) (by decide) rfl (Nat.le_of_ble_eq_true rfl) (fun p e s m args below meth c S hr hlocks G hP hS ls hl => ?_)
  have hx := S.1
  have hb := S.2.1
  replace hl : lv_has ls 8 [(0, .ref (ad 0))] := hl
  obtain ⟨σ0, -, C0⟩ := id hP
  have W0 := C0.gw
  have hn6 : gn μ ≤ 6 := W0.1.2.1
  have hm6 : gm μ ≤ 6 := W0.1.2.2.2.1
  have hn0 : ¬ gn μ = 0 := by omega
  have hn02 : 0 < gn μ := by omega
  have FC := hF s G.2.2.2.2.2
  have X0 := G.x hCX
  obtain ⟨d0, hd0, ed0⟩ := W0.1.2.2.2.2.1 0 (by decide)
  have th0 : stp (μ 277) 7 0 (nI d0) 0 = rfs (μ 277) 5 (nI d0) := by have := t_hp (k := 0) W0 hn02; rw [ed0] at this; exact this
  refine lv_aload_n hx hb dL_refused_0 rfl (lv_at hl 0 rfl) ?_
  refine gcSl (As := [.ref (ad 0)]) 1000 S G (k_asks l cs hF hY hlt μ (by first | assumption | omega | decide)) cks_yL_asks ml_RL_266 hP hS hl.1 ⟨by decide, by decide⟩ rfl (by rfl) (Nat.le_of_ble_eq_true rfl) ⟨by omega, (by show _ ≤ 3400; omega), (by show _ ≤ 6 * 3400; omega)⟩ dL_refused_1 (fun r_1 ν_2 H locs hq_3 hP hS => ?_)
  obtain ⟨hq_3a, hq_3b⟩ := hq_3; subst r_1; subst ν_2
  refine lv_lstore_n (lv' := [(1, .long (asA (μ 277))), (0, .ref (ad 0))]) hx hb dL_refused_4 rfl hl (by decide) rfl (fun ls hl => ?_)
  refine lv_aload_n hx hb dL_refused_5 rfl (lv_at hl 1 rfl) ?_
  refine lv_iconst (v := 0) hx hb dL_refused_6 (by decide) ?_
  refine gcH (As := [.ref (ad 0), .int 0]) 1001 S G (g_account l cs hF hY hlt (lnS μ (lbN (μ 277))) (0)) ckh_account ml_RL_201 hP hS hl.1 ⟨by decide, by decide⟩ rfl (by rfl) (Nat.le_of_ble_eq_true rfl) ⟨by omega, (by show _ ≤ 3400; omega), (by show _ ≤ 6 * 3400; omega)⟩ dL_refused_7 (fun r_4 ν_5 H locs hq_6 hP hS => ?_)
  obtain ⟨hq_6a, hq_6b⟩ := hq_6; subst r_4; subst ν_5
  refine lv_tope (y := nI (gn μ)) (acc0 (lnS_W W0)) ?_
  refine lv_istore_n (lv' := [(3, .int (nI (gn μ))), (1, .long (asA (μ 277))), (0, .ref (ad 0))]) hx hb dL_refused_10 rfl hl (by decide) rfl (fun ls hl => ?_)
  refine lv_aload_n hx hb dL_refused_11 rfl (lv_at hl 2 rfl) ?_
  refine lv_iconst (v := 2) hx hb dL_refused_12 (by decide) ?_
  refine gcH (As := [.ref (ad 0), .int 2]) 1002 S G (g_account l cs hF hY hlt (lnS μ (lbN (μ 277))) (2)) ckh_account ml_RL_201 hP hS hl.1 ⟨by decide, by decide⟩ rfl (by rfl) (Nat.le_of_ble_eq_true rfl) ⟨by omega, (by show _ ≤ 3400; omega), (by show _ ≤ 6 * 3400; omega)⟩ dL_refused_13 (fun r_7 ν_8 H locs hq_9 hP hS => ?_)
  obtain ⟨hq_9a, hq_9b⟩ := hq_9; subst r_7; subst ν_8
  refine lv_tope (y := nI (gm μ)) (acc2 (lnS_W W0)) ?_
  refine lv_istore (lv' := [(4, .int (nI (gm μ))), (3, .int (nI (gn μ))), (1, .long (asA (μ 277))), (0, .ref (ad 0))]) hx hb dL_refused_16 hl (by decide) rfl (fun ls hl => ?_)
  have jn_18_1 : ∀ (ν1 : Mem) (hJ_18 : RF μ ν1) (H : Heap) (locs : List Loc) (ls : Array Slot), wG D ct ek ad X ν1 H → va_S (fr N0) s.heap H locs → lv_has ls 8 [(4, .int (nI (gm μ))), (3, .int (nI (gn μ))), (1, .long (asA (μ 277))), (0, .ref (ad 0))] → W p l e (rmd 10 3400 (6 * 3400)) s m args below meth c H locs 1030 (6 * 1030) (MQ below (gQi D ct ek ad N0 X (fun r ν => r = 1 ∧ CoE ν μ)) args s 3400 (6 * 3400) (fr N0)) (F0 m 90 ls []) := by
    intro ν1 hJ_18 H locs ls hP hS hl
    have jn_90_2 : ∀ (ν2 : Mem) (hJ_90 : RF μ ν2) (H : Heap) (locs : List Loc) (ls : Array Slot), wG D ct ek ad X ν2 H → va_S (fr N0) s.heap H locs → lv_has ls 8 [(4, .int (nI (gm μ))), (3, .int (nI (gn μ))), (1, .long (asA (μ 277))), (0, .ref (ad 0))] → W p l e (rmd 10 3400 (6 * 3400)) s m args below meth c H locs 1080 (6 * 1080) (MQ below (gQi D ct ek ad N0 X (fun r ν => r = 1 ∧ CoE ν μ)) args s 3400 (6 * 3400) (fr N0)) (F0 m 203 ls []) := by
      intro ν2 hJ_90 H locs ls hP hS hl
      have jn_203_3 : ∀ (ν3 : Mem) (hJ_203 : RF μ ν3) (H : Heap) (locs : List Loc) (ls : Array Slot), wG D ct ek ad X ν3 H → va_S (fr N0) s.heap H locs → lv_has ls 8 [(4, .int (nI (gm μ))), (3, .int (nI (gn μ))), (1, .long (asA (μ 277))), (0, .ref (ad 0))] → W p l e (rmd 10 3400 (6 * 3400)) s m args below meth c H locs 1130 (6 * 1130) (MQ below (gQi D ct ek ad N0 X (fun r ν => r = 1 ∧ CoE ν μ)) args s 3400 (6 * 3400) (fr N0)) (F0 m 349 ls []) := by
        intro ν3 hJ_203 H locs ls hP hS hl
        have jn_349_4 : ∀ (ν4 : Mem) (hJ_349 : RF μ ν4) (H : Heap) (locs : List Loc) (ls : Array Slot), wG D ct ek ad X ν4 H → va_S (fr N0) s.heap H locs → lv_has ls 8 [(5, .int 1), (4, .int (nI (gm μ))), (3, .int (nI (gn μ))), (1, .long (asA (μ 277))), (0, .ref (ad 0))] → W p l e (rmd 10 3400 (6 * 3400)) s m args below meth c H locs 1200 (6 * 1200) (MQ below (gQi D ct ek ad N0 X (fun r ν => r = 1 ∧ CoE ν μ)) args s 3400 (6 * 3400) (fr N0)) (F0 m 459 ls []) := by
          intro ν4 hJ_349 H locs ls hP hS hl
          refine lv_iconst (v := 0) hx hb dL_refused_459 (by decide) ?_
          refine lv_istore (lv' := [(6, .int 0), (5, .int 1), (4, .int (nI (gm μ))), (3, .int (nI (gn μ))), (1, .long (asA (μ 277))), (0, .ref (ad 0))]) hx hb dL_refused_460 hl (by decide) rfl (fun ls hl => ?_)
          have key_462 : ∀ (d k : Nat), k + d = (gn μ) → ∀ (ν : Mem), (RF μ ν) → ∀ (H : Heap) (locs : List Loc) (ls : Array Slot), wG D ct ek ad X ν H → va_S (fr N0) s.heap H locs → lv_has ls 8 [(6, .int (nI k)), (5, .int 1), (4, .int (nI (gm μ))), (3, .int (nI (gn μ))), (1, .long (asA (μ 277))), (0, .ref (ad 0))] → W p l e (rmd 10 3400 (6 * 3400)) s m args below meth c H locs (110 * k + 1210) (6 * (110 * k + 1210)) (MQ below (gQi D ct ek ad N0 X (fun r ν => r = 1 ∧ CoE ν μ)) args s 3400 (6 * 3400) (fr N0)) (F0 m 462 ls []) := by
            intro d
            induction d with
            | zero =>
              intro k9 hk
              obtain rfl : (gn μ) = k9 := by omega
              intro ν hν H locs ls hP hS hl
              refine lv_iload hx hb dL_refused_462 (lv_at hl 0 rfl) ?_
              refine lv_iload_n hx hb dL_refused_464 rfl (lv_at hl 3 rfl) ?_
              refine lv_icmp_ge (tgt := 693) hx hb dL_refused_465 (by decide) (fun c_465 => ?_) (fun c_465 => absurd (nI_le (by omega) (by omega)) c_465)
              refine lv_iconst (v := 0) hx hb dL_refused_693 (by decide) ?_
              refine lv_istore (lv' := [(6, .int 0), (5, .int 1), (4, .int (nI (gm μ))), (3, .int (nI (gn μ))), (1, .long (asA (μ 277))), (0, .ref (ad 0))]) hx hb dL_refused_694 hl (by decide) rfl (fun ls hl => ?_)
              have key_696 : ∀ (d k : Nat), k + d = (gm μ) → ∀ (ν : Mem), (RF μ ν) → ∀ (H : Heap) (locs : List Loc) (ls : Array Slot), wG D ct ek ad X ν H → va_S (fr N0) s.heap H locs → lv_has ls 8 [(6, .int (nI k)), (5, .int 1), (4, .int (nI (gm μ))), (3, .int (nI (gn μ))), (1, .long (asA (μ 277))), (0, .ref (ad 0))] → W p l e (rmd 10 3400 (6 * 3400)) s m args below meth c H locs (12 * k + 1880) (6 * (12 * k + 1880)) (MQ below (gQi D ct ek ad N0 X (fun r ν => r = 1 ∧ CoE ν μ)) args s 3400 (6 * 3400) (fr N0)) (F0 m 696 ls []) := by
                intro d
                induction d with
                | zero =>
                  intro k9 hk
                  obtain rfl : (gm μ) = k9 := by omega
                  intro ν hν H locs ls hP hS hl
                  refine lv_iload hx hb dL_refused_696 (lv_at hl 0 rfl) ?_
                  refine lv_iload hx hb dL_refused_698 (lv_at hl 2 rfl) ?_
                  refine lv_icmp_ge (tgt := 757) hx hb dL_refused_700 (by decide) (fun c_700 => ?_) (fun c_700 => absurd (nI_le (by omega) (by omega)) c_700)
                  have jn_757_5 : ∀ (ν6 : Mem) (hJ_757 : RF μ ν6 ∧ RsK ν6 5 (nI d0) 0) (H : Heap) (locs : List Loc) (ls : Array Slot), wG D ct ek ad X ν6 H → va_S (fr N0) s.heap H locs → lv_has ls 8 [(6, .int (nI d0)), (5, .int 1), (4, .int (nI (gm μ))), (3, .int (nI (gn μ))), (1, .long (asA (μ 277))), (0, .ref (ad 0))] → W p l e (rmd 10 3400 (6 * 3400)) s m args below meth c H locs 1975 (6 * 1975) (MQ below (gQi D ct ek ad N0 X (fun r ν => r = 1 ∧ CoE ν μ)) args s 3400 (6 * 3400) (fr N0)) (F0 m 866 ls []) := by
                    intro ν6 hJ_757 H locs ls hP hS hl
                    obtain ⟨σ9, -, C9⟩ := id hP
                    have jn_866_6 : ∀ (ν7 : Mem) (hJ_866 : RF μ ν7 ∧ RsK ν7 5 (nI d0) 0) (H : Heap) (locs : List Loc) (ls : Array Slot), wG D ct ek ad X ν7 H → va_S (fr N0) s.heap H locs → lv_has ls 8 [(6, .int (nI d0)), (5, .int 1), (4, .int (nI (gm μ))), (3, .int (nI (gn μ))), (1, .long (asA (μ 277))), (0, .ref (ad 0))] → W p l e (rmd 10 3400 (6 * 3400)) s m args below meth c H locs 1985 (6 * 1985) (MQ below (gQi D ct ek ad N0 X (fun r ν => r = 1 ∧ CoE ν μ)) args s 3400 (6 * 3400) (fr N0)) (F0 m 909 ls []) := by
                      intro ν7 hJ_866 H locs ls hP hS hl
                      obtain ⟨σ9, -, C9⟩ := id hP
                      have jn_909_7 : ∀ (ν8 : Mem) (hJ_909 : RF μ ν8 ∧ RsK ν8 5 (nI d0) 0) (H : Heap) (locs : List Loc) (ls : Array Slot), wG D ct ek ad X ν8 H → va_S (fr N0) s.heap H locs → lv_has ls 8 [(6, .int (nI d0)), (5, .int 1), (4, .int (nI (gm μ))), (3, .int (nI (gn μ))), (1, .long (asA (μ 277))), (0, .ref (ad 0))] → W p l e (rmd 10 3400 (6 * 3400)) s m args below meth c H locs 2005 (6 * 2005) (MQ below (gQi D ct ek ad N0 X (fun r ν => r = 1 ∧ CoE ν μ)) args s 3400 (6 * 3400) (fr N0)) (F0 m 1026 ls []) := by
                        intro ν8 hJ_909 H locs ls hP hS hl
                        obtain ⟨σ9, -, C9⟩ := id hP
                        have jn_1026_8 : ∀ (ν10 : Mem) (hJ_1026 : RF μ ν10 ∧ RsK ν10 5 (nI d0) 0) (H : Heap) (locs : List Loc) (ls : Array Slot), wG D ct ek ad X ν10 H → va_S (fr N0) s.heap H locs → lv_has ls 8 [(6, .int (nI d0)), (5, .int 1), (4, .int (nI (gm μ))), (3, .int (nI (gn μ))), (1, .long (asA (μ 277))), (0, .ref (ad 0))] → W p l e (rmd 10 3400 (6 * 3400)) s m args below meth c H locs 2020 (6 * 2020) (MQ below (gQi D ct ek ad N0 X (fun r ν => r = 1 ∧ CoE ν μ)) args s 3400 (6 * 3400) (fr N0)) (F0 m 1135 ls []) := by
                          intro ν10 hJ_1026 H locs ls hP hS hl
                          obtain ⟨σ9, -, C9⟩ := id hP
                          have jn_1135_9 : ∀ (ν11 : Mem) (hJ_1135 : RF μ ν11) (H : Heap) (locs : List Loc) (ls : Array Slot), wG D ct ek ad X ν11 H → va_S (fr N0) s.heap H locs → lv_has ls 8 [(6, .int (nI d0)), (5, .int 1), (4, .int (nI (gm μ))), (3, .int (nI (gn μ))), (1, .long (asA (μ 277))), (0, .ref (ad 0))] → W p l e (rmd 10 3400 (6 * 3400)) s m args below meth c H locs 2035 (6 * 2035) (MQ below (gQi D ct ek ad N0 X (fun r ν => r = 1 ∧ CoE ν μ)) args s 3400 (6 * 3400) (fr N0)) (F0 m 1220 ls []) := by
                            intro ν11 hJ_1135 H locs ls hP hS hl
                            refine lv_iload hx hb dL_refused_1220 (lv_at hl 1 rfl) ?_
                            refine lv_if_eq (tgt := 1331) hx hb dL_refused_1222 (by decide) (fun c_1222 => absurd c_1222 (by decide)) (fun c_1222 => ?_)
                            refine lv_aload_n hx hb dL_refused_1225 rfl (lv_at hl 5 rfl) ?_
                            refine va_ldcSW hx hb S.2.2.2.1 (FC.sL 3 (by decide)) dL_refused_1226 ?_
                            refine gcS (As := [.ref (ad 0), .ref (cs 11)]) 2105 S G (k_runs l cs hF hY hlt ν11 (cs 11) 1 (by decide) (chB 11) (sK_nar 11 (by decide)) (rcv_k hF (by decide)) (fun σ => c_J0_length_8abf5 l σ cs hF 11 (by decide)) (fun k hk σ => c_J0_charAt_5068e l σ cs hF 11 (by decide) k hk) (rf_L hJ_1135 hL1)) cks_yL_runs ml_RL_262 hP hS hl.1 ⟨by decide, by decide⟩ rfl rfl (Nat.le_of_ble_eq_true rfl) ⟨by omega, (by show _ ≤ 3400; omega), (by show _ ≤ 6 * 3400; omega)⟩ dL_refused_1229 (fun r_10 ν_11 H locs hq_12 hP hS => ?_)
                            obtain ⟨hq_12a, hq_12b⟩ := hq_12; subst r_10; subst ν_11
                            have hx1 := tx_q hJ_1135 hL1
                            refine lv_tope (y := (-1001)) hx1.1 ?_
                            refine lv_sipush (v := (-1001)) hx hb dL_refused_1232 (by decide) ?_
                            refine lv_icmp_ne (tgt := 1331) hx hb dL_refused_1235 (by decide) (fun c_1235 => absurd (by decide) c_1235) (fun c_1235 => ?_)
                            refine lv_aload_n hx hb dL_refused_1238 rfl (lv_at hl 5 rfl) ?_
                            refine gcV (As := []) (fs := []) (gp := fun r ν => r = ((cmG (txK ν11 (chB 11) 1)).2) 276 15 ∧ ν = ((cmG (txK ν11 (chB 11) 1)).2)) S G 0 (post := fun σ r τ => r = σ 0 10 ∧ τ = σ) (fun σ C => c_X10_faultPosition l σ) (fun σ r τ C h => ⟨_, eqC C h.2, h.1.trans C.2.2.2.2.2.2.1, rfl⟩) ok_yX10_faultPosition ml_RL_284 (by decide) oXe rfl hP hS hl.1 ⟨by decide, by decide⟩ rfl (by rfl) (Nat.le_of_ble_eq_true rfl) ⟨(by show _ ≤ 3400; omega), (by show _ ≤ 6 * 3400; omega)⟩ dL_refused_1239 (fun r_13 ν_14 H locs hq_15 hP hS => ?_)
                            obtain ⟨hq_15a, hq_15b⟩ := hq_15; subst r_13; subst ν_14
                            refine lv_tope (y := 0) hx1.2.2 ?_
                            refine lv_if_ne (tgt := 1331) hx hb dL_refused_1242 (by decide) (fun c_1242 => absurd (by decide) c_1242) (fun c_1242 => ?_)
                            refine lv_aload_n hx hb dL_refused_1245 rfl (lv_at hl 5 rfl) ?_
                            refine va_ldcSW hx hb S.2.2.2.1 (FC.sL 4 (by decide)) dL_refused_1246 ?_
                            refine gcS (As := [.ref (ad 0), .ref (cs 12)]) 2175 S G (k_runs l cs hF hY hlt ((cmG (txK ν11 (chB 11) 1)).2) (cs 12) 8 (by decide) (chB 12) (sK_nar 12 (by decide)) (rcv_k hF (by decide)) (fun σ => c_J0_length_8abf5 l σ cs hF 12 (by decide)) (fun k hk σ => c_J0_charAt_5068e l σ cs hF 12 (by decide) k hk) (rf_L hx1.2.1 hL1)) cks_yL_runs ml_RL_262 hP hS hl.1 ⟨by decide, by decide⟩ rfl rfl (Nat.le_of_ble_eq_true rfl) ⟨by omega, (by show _ ≤ 3400; omega), (by show _ ≤ 6 * 3400; omega)⟩ dL_refused_1249 (fun r_16 ν_17 H locs hq_18 hP hS => ?_)
                            obtain ⟨hq_18a, hq_18b⟩ := hq_18; subst r_16; subst ν_17
                            obtain ⟨h9, hx9⟩ := tr_x2 W0 h2
                            have hx2 := tx_c (f := chB 12) (L := 8) hx1.2.1 hL1 (by decide) (tr_p2 8 rfl) (hx9 8 rfl) (by decide)
                            refine lv_tope (y := (-1002)) hx2.1 ?_
                            refine lv_sipush (v := (-1002)) hx hb dL_refused_1252 (by decide) ?_
                            refine lv_icmp_ne (tgt := 1331) hx hb dL_refused_1255 (by decide) (fun c_1255 => absurd (by decide) c_1255) (fun c_1255 => ?_)
                            refine lv_aload_n hx hb dL_refused_1258 rfl (lv_at hl 5 rfl) ?_
                            refine lv_iconst (v := 2) hx hb dL_refused_1259 (by decide) ?_
                            refine lv_iconst (v := 3) hx hb dL_refused_1260 (by decide) ?_
                            refine lv_iload_n hx hb dL_refused_1261 rfl (lv_at hl 3 rfl) ?_
                            refine gcS (As := [.ref (ad 0), .int 2, .int 3, .int (nI (gn μ))]) 2179 S G (k_isAt l cs hF hY hlt ((cmG (txK ((cmG (txK ν11 (chB 11) 1)).2) (chB 12) 8)).2) (2) (3) (nI (gn μ)) hx2.2.2.2) cks_yL_isAt ml_RL_152 hP hS hl.1 ⟨by decide, by decide⟩ rfl (by rfl) (Nat.le_of_ble_eq_true rfl) ⟨by omega, (by show _ ≤ 3400; omega), (by show _ ≤ 6 * 3400; omega)⟩ dL_refused_1262 (fun r_19 ν_20 H locs hq_21 hP hS => ?_)
                            obtain ⟨hq_21a, hq_21b⟩ := hq_21; subst r_19; subst ν_20
                            refine lv_if_eq (tgt := 1331) hx hb dL_refused_1265 (by decide) (fun c_1265 => absurd c_1265 (by decide)) (fun c_1265 => ?_)
                            refine lv_aload_n hx hb dL_refused_1268 rfl (lv_at hl 5 rfl) ?_
                            obtain ⟨hP, hD⟩ := gW0 G hP
                            refine gN 2180 S X0 hP hD hS cl_RL_243 ⟨by omega, (by show _ ≤ 3400; omega), (by show _ ≤ 6 * 3400; omega)⟩ dL_refused_1269 (fun q_22 H hP hD hS => ?_)
                            replace hP : wG D ct ek ad (X ++ [(q_22, .inr (9, [.null, .int 0, .int 0, .int 0]))]) ((cmG (txK ((cmG (txK ν11 (chB 11) 1)).2) (chB 12) 8)).2) H := hP
                            replace hD : wD ct ek ad N0 (X ++ [(q_22, .inr (9, [.null, .int 0, .int 0, .int 0]))]) := hD
                            refine lv_dup hx hb dL_refused_1272 rfl ?_
                            refine gBI (As := []) 2183 S X0 (fun B => b_J4_init_da8c8 l cs hF hZ B q_22) kb_yJ4_init_da8c8 rfl ml_RL_245 im_yJ4_init_da8c8 hP hD hS hl.1 ⟨by decide, by decide⟩ rfl (by rfl) (Nat.le_of_ble_eq_true rfl) ⟨by omega, (by show _ ≤ 3400; omega), (by show _ ≤ 6 * 3400; omega)⟩ dL_refused_1273 (fun g_23 H locs hP hD hS => ?_)
                            replace hP : wG D ct ek ad (X ++ [(q_22, .inr (9, [.ref (g_23 0), .int 0, .int 0, .int (nI 0)])), ((g_23 0), .inl (ct 7, 16, .inl (fun _ => 0)))]) ((cmG (txK ((cmG (txK ν11 (chB 11) 1)).2) (chB 12) 8)).2) H := hP
                            replace hD : wD ct ek ad N0 (X ++ [(q_22, .inr (9, [.ref (g_23 0), .int 0, .int 0, .int (nI 0)])), ((g_23 0), .inl (ct 7, 16, .inl (fun _ => 0)))]) := hD
                            refine va_ldcSW hx hb S.2.2.2.1 (FC.sL 5 (by decide)) dL_refused_1276 ?_
                            refine gBW (As := [.ref (cs 13)]) (C := RJ4) 2183 S X0 (fun B => b_J4_append_15ec4 l cs hF hZ B q_22 (g_23 0) 0 (fun _ => 0) 13 (by decide) (by decide)) kb_yJ4_append_15ec4 ml_RL_248 im_yJ4_append_15ec4 (S.2.2.2.2 _ se_RJ4_yJ4_append_15ec4) (ci := 9) 0 rfl rfl hP hD hS hl.1 ⟨by decide, by decide⟩ rfl (by rfl) (Nat.le_of_ble_eq_true rfl) ⟨by omega, (by show _ ≤ 3400; omega), (by show _ ≤ 6 * 3400; omega)⟩ dL_refused_1279 (fun _ H locs hP hD hS => ?_)
                            replace hP : wG D ct ek ad (X ++ [(q_22, .inr (9, [.ref (g_23 0), .int 0, .int 0, .int (nI 3)])), ((g_23 0), .inl (ct 7, 16, .inl (f1K 13)))]) ((cmG (txK ((cmG (txK ν11 (chB 11) 1)).2) (chB 12) 8)).2) H := hP
                            replace hD : wD ct ek ad N0 (X ++ [(q_22, .inr (9, [.ref (g_23 0), .int 0, .int 0, .int (nI 3)])), ((g_23 0), .inl (ct 7, 16, .inl (f1K 13)))]) := hD
                            refine lv_iload hx hb dL_refused_1282 (lv_at hl 0 rfl) ?_
                            refine gBW (As := [.int (nI d0)]) (C := RJ4) 2183 S X0 (fun B => b_J4_append_bf812 l cs hF hZ B q_22 (g_23 0) 3 (f1K 13) d0 (by omega) (by decide)) kb_yJ4_append_bf812 ml_RL_251 im_yJ4_append_bf812 (S.2.2.2.2 _ se_RJ4_yJ4_append_bf812) (ci := 9) 0 rfl rfl hP hD hS hl.1 ⟨by decide, by decide⟩ rfl (by rfl) (Nat.le_of_ble_eq_true rfl) ⟨by omega, (by show _ ≤ 3400; omega), (by show _ ≤ 6 * 3400; omega)⟩ dL_refused_1284 (fun _ H locs hP hD hS => ?_)
                            replace hP : wG D ct ek ad (X ++ [(q_22, .inr (9, [.ref (g_23 0), .int 0, .int 0, .int (nI 4)])), ((g_23 0), .inl (ct 7, 16, .inl (f2K 13 d0)))]) ((cmG (txK ((cmG (txK ν11 (chB 11) 1)).2) (chB 12) 8)).2) H := hP
                            replace hD : wD ct ek ad N0 (X ++ [(q_22, .inr (9, [.ref (g_23 0), .int 0, .int 0, .int (nI 4)])), ((g_23 0), .inl (ct 7, 16, .inl (f2K 13 d0)))]) := hD
                            refine gBW (As := []) (C := RJ4) 2187 S X0 (fun B => b_J4_toString_0e30d l cs hF hZ B q_22 (g_23 0) 4 (f2K 13 d0) (by decide) (fC_fit d0 (by omega))) kb_yJ4_toString_0e30d ml_RL_256 im_yJ4_toString_0e30d (S.2.2.2.2 _ se_RJ4_yJ4_toString_0e30d) (ci := 9) 0 rfl rfl hP hD hS hl.1 ⟨by decide, by decide⟩ rfl (by rfl) (Nat.le_of_ble_eq_true rfl) ⟨by omega, (by show _ ≤ 3400; omega), (by show _ ≤ 6 * 3400; omega)⟩ dL_refused_1287 (fun g_26 H locs hP hD hS => ?_)
                            replace hP : wG D ct ek ad (X ++ [(q_22, .inr (9, [.ref (g_23 0), .int 0, .int 0, .int (nI 4)])), ((g_23 0), .inl (ct 7, 16, .inl (f2K 13 d0))), ((g_26 1), .inr (10, [.ref (g_26 0), .int 0, .int 0, .int 0])), ((g_26 0), .inl (ct 7, 4, .inl (fZ (f2K 13 d0) 4)))]) ((cmG (txK ((cmG (txK ν11 (chB 11) 1)).2) (chB 12) 8)).2) H := hP
                            replace hD : wD ct ek ad N0 (X ++ [(q_22, .inr (9, [.ref (g_23 0), .int 0, .int 0, .int (nI 4)])), ((g_23 0), .inl (ct 7, 16, .inl (f2K 13 d0))), ((g_26 1), .inr (10, [.ref (g_26 0), .int 0, .int 0, .int 0])), ((g_26 0), .inl (ct 7, 4, .inl (fZ (f2K 13 d0) 4)))]) := hD
                            refine gcX (As := [.ref (ad 0), .ref (g_26 1)]) 2257 S X0 hD (k_runs l cs hF hY hlt ((cmG (txK ((cmG (txK ν11 (chB 11) 1)).2) (chB 12) 8)).2) (g_26 1) 4 (by decide) (fZ (f2K 13 d0) 4) (fC_nar d0 (by omega)) (rcv_m (at_B (B := X) (j := 2) rfl)) (fun σ => c_m_length l σ cs hF (g_26 1) (g_26 0) 4 (fZ (f2K 13 d0) 4) _ _ (by decide) (at_B (B := X) (j := 2) rfl) (at_B (B := X) (j := 3) rfl) (fC_ch d0 (by omega))) (fun k hk σ => c_m_charAt l σ cs hF (g_26 1) (g_26 0) 4 (fZ (f2K 13 d0) 4) _ _ (by decide) (at_B (B := X) (j := 2) rfl) (at_B (B := X) (j := 3) rfl) (fC_ch d0 (by omega)) k hk) (rf_L hx2.2.1 hL1)) cks_yL_runs ml_RL_262 hP hS hl.1 ⟨by decide, by decide⟩ rfl rfl (Nat.le_of_ble_eq_true rfl) ⟨by omega, (by show _ ≤ 3400; omega), (by show _ ≤ 6 * 3400; omega)⟩ dL_refused_1290 (fun r_27 ν_28 H locs hq_29 hP hS => ?_)
                            replace hP := wG_drop hP
                            obtain ⟨hq_29a, hq_29b⟩ := hq_29; subst r_27; subst ν_28
                            have hx3 := tx_c (f := fZ (f2K 13 d0) 4) (L := 4) hx2.2.1 hL1 (by decide) (th_p2 (d := d0) (by omega) 4 rfl) (th_x2 (d := d0) W0 h2 (by omega) ed0 4 rfl) (by decide)
                            refine lv_tope (y := (-1002)) hx3.1 ?_
                            refine lv_sipush (v := (-1002)) hx hb dL_refused_1293 (by decide) ?_
                            refine lv_icmp_ne (tgt := 1331) hx hb dL_refused_1296 (by decide) (fun c_1296 => absurd (by decide) c_1296) (fun c_1296 => ?_)
                            refine lv_aload_n hx hb dL_refused_1299 rfl (lv_at hl 5 rfl) ?_
                            refine lv_iconst (v := 0) hx hb dL_refused_1300 (by decide) ?_
                            refine lv_iconst (v := 5) hx hb dL_refused_1301 (by decide) ?_
                            refine lv_iload hx hb dL_refused_1302 (lv_at hl 0 rfl) ?_
                            refine gcS (As := [.ref (ad 0), .int 0, .int 5, .int (nI d0)]) 2261 S G (k_isAt l cs hF hY hlt ((cmG (txK ((cmG (txK ((cmG (txK ν11 (chB 11) 1)).2) (chB 12) 8)).2) (fZ (f2K 13 d0) 4) 4)).2) (0) (5) (nI d0) hx3.2.2.2) cks_yL_isAt ml_RL_152 hP hS hl.1 ⟨by decide, by decide⟩ rfl (by rfl) (Nat.le_of_ble_eq_true rfl) ⟨by omega, (by show _ ≤ 3400; omega), (by show _ ≤ 6 * 3400; omega)⟩ dL_refused_1304 (fun r_30 ν_31 H locs hq_32 hP hS => ?_)
                            obtain ⟨hq_32a, hq_32b⟩ := hq_32; subst r_30; subst ν_31
                            refine lv_if_eq (tgt := 1331) hx hb dL_refused_1307 (by decide) (fun c_1307 => absurd c_1307 (by decide)) (fun c_1307 => ?_)
                            refine lv_aload_n hx hb dL_refused_1310 rfl (lv_at hl 5 rfl) ?_
                            refine gcV (As := []) (fs := []) (gp := fun r ν => r = ((cmG (txK ((cmG (txK ((cmG (txK ν11 (chB 11) 1)).2) (chB 12) 8)).2) (fZ (f2K 13 d0) 4) 4)).2) 276 15 ∧ ν = ((cmG (txK ((cmG (txK ((cmG (txK ν11 (chB 11) 1)).2) (chB 12) 8)).2) (fZ (f2K 13 d0) 4) 4)).2)) S G 0 (post := fun σ r τ => r = σ 0 10 ∧ τ = σ) (fun σ C => c_X10_faultPosition l σ) (fun σ r τ C h => ⟨_, eqC C h.2, h.1.trans C.2.2.2.2.2.2.1, rfl⟩) ok_yX10_faultPosition ml_RL_284 (by decide) oXe rfl hP hS hl.1 ⟨by decide, by decide⟩ rfl (by rfl) (Nat.le_of_ble_eq_true rfl) ⟨(by show _ ≤ 3400; omega), (by show _ ≤ 6 * 3400; omega)⟩ dL_refused_1311 (fun r_33 ν_34 H locs hq_35 hP hS => ?_)
                            obtain ⟨hq_35a, hq_35b⟩ := hq_35; subst r_33; subst ν_34
                            refine lv_tope (y := (-1)) hx3.2.2.1 ?_
                            refine lv_iconst (v := (-1)) hx hb dL_refused_1314 (by decide) ?_
                            refine lv_icmp_ne (tgt := 1331) hx hb dL_refused_1315 (by decide) (fun c_1315 => absurd (by decide) c_1315) (fun c_1315 => ?_)
                            refine lv_aload_n hx hb dL_refused_1318 rfl (lv_at hl 5 rfl) ?_
                            refine gcSl (As := [.ref (ad 0)]) 3261 S G (k_asks l cs hF hY hlt ((cmG (txK ((cmG (txK ((cmG (txK ν11 (chB 11) 1)).2) (chB 12) 8)).2) (fZ (f2K 13 d0) 4) 4)).2) (by rw [(hx3.2.1).2.n.1]; exact hn0)) cks_yL_asks ml_RL_266 hP hS hl.1 ⟨by decide, by decide⟩ rfl (by rfl) (Nat.le_of_ble_eq_true rfl) ⟨by omega, (by show _ ≤ 3400; omega), (by show _ ≤ 6 * 3400; omega)⟩ dL_refused_1319 (fun r_36 ν_37 H locs hq_38 hP hS => ?_)
                            obtain ⟨hq_38a, hq_38b⟩ := hq_38; subst r_36; subst ν_37
                            rw [show asA (((cmG (txK ((cmG (txK ((cmG (txK ν11 (chB 11) 1)).2) (chB 12) 8)).2) (fZ (f2K 13 d0) 4) 4)).2) 277) = asA (μ 277) from congrArg asA (hx3.2.1).1]
                            refine lv_lload_n hx hb dL_refused_1322 rfl (lv_at hl 4 rfl) ?_
                            refine W.lcmp hx hb dL_refused_1323 ?_
                            refine lv_if_ne (tgt := 1331) hx hb dL_refused_1324 (by decide) (fun c_1324 => absurd lg_rf c_1324) (fun c_1324 => ?_)
                            refine lv_iconst (v := 1) hx hb dL_refused_1327 (by decide) ?_
                            refine lv_goto (tgt := 1332) hx hb dL_refused_1328 (by decide) ?_
                            exact eGz S hr hlocks hP hS ⟨by omega, by omega⟩ (by decide) dL_refused_1332 ⟨rfl, CoE.ln.tr (hx3.2.1).2⟩
                          refine lv_aload_n hx hb dL_refused_1135 rfl (lv_at hl 5 rfl) ?_
                          refine lv_iload_n hx hb dL_refused_1136 rfl (lv_at hl 3 rfl) ?_
                          refine gcH (As := [.ref (ad 0), .int (nI (gn μ))]) 2021 S G (g_line l cs hF hY hlt ν10 (nI (gn μ))) ckh_line ml_RL_220 hP hS hl.1 ⟨by decide, by decide⟩ rfl (by rfl) (Nat.le_of_ble_eq_true rfl) ⟨by omega, (by show _ ≤ 3400; omega), (by show _ ≤ 6 * 3400; omega)⟩ dL_refused_1137 (fun r_39 ν_40 H locs hq_41 hP hS => ?_)
                          obtain ⟨hq_41a, hq_41b⟩ := hq_41; subst r_39; subst ν_40
                          replace hP := wG_e hP (show _ = ν10 from (ln_2 (q_n hJ_1026.1 W0.1.1 hn6)))
                          refine lv_tope (y := (-1001)) (ln_1 (q_n hJ_1026.1 W0.1.1 hn6)) ?_
                          refine lv_sipush (v := (-1001)) hx hb dL_refused_1140 (by decide) ?_
                          refine lv_icmp_ne (tgt := 1217) hx hb dL_refused_1143 (by decide) (fun c_1143 => absurd (by decide) c_1143) (fun c_1143 => ?_)
                          refine lv_aload_n hx hb dL_refused_1146 rfl (lv_at hl 5 rfl) ?_
                          refine lv_iconst (v := (-1)) hx hb dL_refused_1147 (by decide) ?_
                          refine gcH (As := [.ref (ad 0), .int (-1)]) 2022 S G (g_character l cs hF hY hlt ν10 (-1)) ckh_character ml_RL_159 hP hS hl.1 ⟨by decide, by decide⟩ rfl (by rfl) (Nat.le_of_ble_eq_true rfl) ⟨by omega, (by show _ ≤ 3400; omega), (by show _ ≤ 6 * 3400; omega)⟩ dL_refused_1148 (fun r_42 ν_43 H locs hq_44 hP hS => ?_)
                          obtain ⟨hq_44a, hq_44b⟩ := hq_44; subst r_42; subst ν_43
                          refine lv_tope (y := (-1001)) (hA_1 (if_pos rng_m)) ?_
                          refine lv_sipush (v := (-1001)) hx hb dL_refused_1151 (by decide) ?_
                          refine lv_icmp_ne (tgt := 1217) hx hb dL_refused_1154 (by decide) (fun c_1154 => absurd (by decide) c_1154) (fun c_1154 => ?_)
                          refine lv_aload_n hx hb dL_refused_1157 rfl (lv_at hl 5 rfl) ?_
                          refine lv_bipush (v := 120) hx hb dL_refused_1158 (by decide) ?_
                          refine gcH (As := [.ref (ad 0), .int 120]) 2023 S G (g_character l cs hF hY hlt ν10 (120)) ckh_character ml_RL_159 hP hS hl.1 ⟨by decide, by decide⟩ rfl (by rfl) (Nat.le_of_ble_eq_true rfl) ⟨by omega, (by show _ ≤ 3400; omega), (by show _ ≤ 6 * 3400; omega)⟩ dL_refused_1160 (fun r_45 ν_46 H locs hq_47 hP hS => ?_)
                          obtain ⟨hq_47a, hq_47b⟩ := hq_47; subst r_45; subst ν_46
                          refine lv_tope (y := (-1001)) (hA_1 (chr_20 C9)) ?_
                          refine lv_sipush (v := (-1001)) hx hb dL_refused_1163 (by decide) ?_
                          refine lv_icmp_ne (tgt := 1217) hx hb dL_refused_1166 (by decide) (fun c_1166 => absurd (by decide) c_1166) (fun c_1166 => ?_)
                          refine lv_aload_n hx hb dL_refused_1169 rfl (lv_at hl 5 rfl) ?_
                          refine lv_bipush (v := 11) hx hb dL_refused_1170 (by decide) ?_
                          refine gcH (As := [.ref (ad 0), .int 11]) 2024 S G (g_account l cs hF hY hlt ν10 (11)) ckh_account ml_RL_201 hP hS hl.1 ⟨by decide, by decide⟩ rfl (by rfl) (Nat.le_of_ble_eq_true rfl) ⟨by omega, (by show _ ≤ 3400; omega), (by show _ ≤ 6 * 3400; omega)⟩ dL_refused_1172 (fun r_48 ν_49 H locs hq_50 hP hS => ?_)
                          obtain ⟨hq_50a, hq_50b⟩ := hq_50; subst r_48; subst ν_49
                          refine lv_tope (y := (-1001)) (hA_1 (by decide)) ?_
                          refine lv_sipush (v := (-1001)) hx hb dL_refused_1175 (by decide) ?_
                          refine lv_icmp_ne (tgt := 1217) hx hb dL_refused_1178 (by decide) (fun c_1178 => absurd (by decide) c_1178) (fun c_1178 => ?_)
                          refine lv_aload_n hx hb dL_refused_1181 rfl (lv_at hl 5 rfl) ?_
                          refine lv_iconst (v := (-1)) hx hb dL_refused_1182 (by decide) ?_
                          refine gcH (As := [.ref (ad 0), .int (-1)]) 2025 S G (g_account l cs hF hY hlt ν10 (-1)) ckh_account ml_RL_201 hP hS hl.1 ⟨by decide, by decide⟩ rfl (by rfl) (Nat.le_of_ble_eq_true rfl) ⟨by omega, (by show _ ≤ 3400; omega), (by show _ ≤ 6 * 3400; omega)⟩ dL_refused_1183 (fun r_51 ν_52 H locs hq_53 hP hS => ?_)
                          obtain ⟨hq_53a, hq_53b⟩ := hq_53; subst r_51; subst ν_52
                          refine lv_tope (y := (-1001)) (hA_1 (by decide)) ?_
                          refine lv_sipush (v := (-1001)) hx hb dL_refused_1186 (by decide) ?_
                          refine lv_icmp_ne (tgt := 1217) hx hb dL_refused_1189 (by decide) (fun c_1189 => absurd (by decide) c_1189) (fun c_1189 => ?_)
                          refine lv_aload_n hx hb dL_refused_1192 rfl (lv_at hl 5 rfl) ?_
                          refine lv_iconst (v := 3) hx hb dL_refused_1193 (by decide) ?_
                          refine gcH (As := [.ref (ad 0), .int 3]) 2026 S G (g_reason l cs hF hY hlt ν10 (3)) ckh_reason ml_RL_156 hP hS hl.1 ⟨by decide, by decide⟩ rfl (by rfl) (Nat.le_of_ble_eq_true rfl) ⟨by omega, (by show _ ≤ 3400; omega), (by show _ ≤ 6 * 3400; omega)⟩ dL_refused_1194 (fun r_54 ν_55 H locs hq_56 hP hS => ?_)
                          obtain ⟨hq_56a, hq_56b⟩ := hq_56; subst r_54; subst ν_55
                          refine lv_tope (y := (-1001)) (hA_1 (if_pos (by decide))) ?_
                          refine lv_sipush (v := (-1001)) hx hb dL_refused_1197 (by decide) ?_
                          refine lv_icmp_ne (tgt := 1217) hx hb dL_refused_1200 (by decide) (fun c_1200 => absurd (by decide) c_1200) (fun c_1200 => ?_)
                          refine lv_aload_n hx hb dL_refused_1203 rfl (lv_at hl 5 rfl) ?_
                          refine lv_iconst (v := 5) hx hb dL_refused_1204 (by decide) ?_
                          refine lv_iload hx hb dL_refused_1205 (lv_at hl 0 rfl) ?_
                          refine gcS (As := [.ref (ad 0), .int 5, .int (nI d0)]) 2030 S G (k_is l cs hF hY hlt ν10 (5) (nI d0) hJ_1026.2) cks_yL_is ml_RL_270 hP hS hl.1 ⟨by decide, by decide⟩ rfl (by rfl) (Nat.le_of_ble_eq_true rfl) ⟨by omega, (by show _ ≤ 3400; omega), (by show _ ≤ 6 * 3400; omega)⟩ dL_refused_1207 (fun r_57 ν_58 H locs hq_59 hP hS => ?_)
                          obtain ⟨hq_59a, hq_59b⟩ := hq_59; subst r_57; subst ν_58
                          refine lv_if_eq (tgt := 1217) hx hb dL_refused_1210 (by decide) (fun c_1210 => absurd c_1210 (by decide)) (fun c_1210 => ?_)
                          refine lv_iconst (v := 1) hx hb dL_refused_1213 (by decide) ?_
                          refine lv_goto (tgt := 1218) hx hb dL_refused_1214 (by decide) ?_
                          refine lv_istore (lv' := [(5, .int 1), (6, .int (nI d0)), (4, .int (nI (gm μ))), (3, .int (nI (gn μ))), (1, .long (asA (μ 277))), (0, .ref (ad 0))]) hx hb dL_refused_1218 hl (by decide) rfl (fun ls hl => ?_)
                          refine W.widen (k := 2035) (n := 6 * 2035) (by omega) (by omega) ?_
                          exact jn_1135_9 _ hJ_1026.1 _ _ _ hP hS (lv_sub hl [1, 0, 2, 3, 4, 5] rfl)
                        refine lv_aload_n hx hb dL_refused_1026 rfl (lv_at hl 5 rfl) ?_
                        refine lv_iload_n hx hb dL_refused_1027 rfl (lv_at hl 3 rfl) ?_
                        refine lv_bipush (v := 99) hx hb dL_refused_1028 (by decide) ?_
                        refine gcH (As := [.ref (ad 0), .int (nI (gn μ)), .int 99]) 2007 S G (g_tiltIn l cs hF hY hlt ν8 (nI (gn μ)) (99)) ckh_tiltIn ml_RL_212 hP hS hl.1 ⟨by decide, by decide⟩ rfl (by rfl) (Nat.le_of_ble_eq_true rfl) ⟨by omega, (by show _ ≤ 3400; omega), (by show _ ≤ 6 * 3400; omega)⟩ dL_refused_1030 (fun r_60 ν_61 H locs hq_62 hP hS => ?_)
                        obtain ⟨hq_62a, hq_62b⟩ := hq_62; subst r_60; subst ν_61
                        refine lv_tope (y := (-1001)) (hA_1 (if_pos (q_n hJ_909.1 W0.1.1 hn6))) ?_
                        refine lv_sipush (v := (-1001)) hx hb dL_refused_1033 (by decide) ?_
                        refine lv_icmp_ne (tgt := 1217) hx hb dL_refused_1036 (by decide) (fun c_1036 => absurd (by decide) c_1036) (fun c_1036 => ?_)
                        refine lv_aload_n hx hb dL_refused_1039 rfl (lv_at hl 5 rfl) ?_
                        refine lv_iconst (v := 0) hx hb dL_refused_1040 (by decide) ?_
                        refine lv_bipush (v := 31) hx hb dL_refused_1041 (by decide) ?_
                        refine gcH (As := [.ref (ad 0), .int 0, .int 31]) 2009 S G (g_tiltIn l cs hF hY hlt ν8 (0) (31)) ckh_tiltIn ml_RL_212 hP hS hl.1 ⟨by decide, by decide⟩ rfl (by rfl) (Nat.le_of_ble_eq_true rfl) ⟨by omega, (by show _ ≤ 3400; omega), (by show _ ≤ 6 * 3400; omega)⟩ dL_refused_1043 (fun r_63 ν_64 H locs hq_65 hP hS => ?_)
                        obtain ⟨hq_65a, hq_65b⟩ := hq_65; subst r_63; subst ν_64
                        refine lv_tope (y := (-1002)) (hA_2 ((if_neg (q_0 hJ_909.1 W0.1.1 h2 hn6)).trans (if_pos (by decide)))) ?_
                        refine lv_sipush (v := (-1002)) hx hb dL_refused_1046 (by decide) ?_
                        refine lv_icmp_ne (tgt := 1217) hx hb dL_refused_1049 (by decide) (fun c_1049 => absurd (by decide) c_1049) (fun c_1049 => ?_)
                        refine lv_aload_n hx hb dL_refused_1052 rfl (lv_at hl 5 rfl) ?_
                        refine lv_iconst (v := 0) hx hb dL_refused_1053 (by decide) ?_
                        refine lv_iconst (v := (-1)) hx hb dL_refused_1054 (by decide) ?_
                        refine gcH (As := [.ref (ad 0), .int 0, .int (-1)]) 2011 S G (g_tiltIn l cs hF hY hlt ν8 (0) (-1)) ckh_tiltIn ml_RL_212 hP hS hl.1 ⟨by decide, by decide⟩ rfl (by rfl) (Nat.le_of_ble_eq_true rfl) ⟨by omega, (by show _ ≤ 3400; omega), (by show _ ≤ 6 * 3400; omega)⟩ dL_refused_1055 (fun r_66 ν_67 H locs hq_68 hP hS => ?_)
                        obtain ⟨hq_68a, hq_68b⟩ := hq_68; subst r_66; subst ν_67
                        refine lv_tope (y := (-1002)) (hA_2 ((if_neg (q_0 hJ_909.1 W0.1.1 h2 hn6)).trans (if_pos (by decide)))) ?_
                        refine lv_sipush (v := (-1002)) hx hb dL_refused_1058 (by decide) ?_
                        refine lv_icmp_ne (tgt := 1217) hx hb dL_refused_1061 (by decide) (fun c_1061 => absurd (by decide) c_1061) (fun c_1061 => ?_)
                        refine lv_aload_n hx hb dL_refused_1064 rfl (lv_at hl 5 rfl) ?_
                        refine lv_iload hx hb dL_refused_1065 (lv_at hl 2 rfl) ?_
                        refine gcH (As := [.ref (ad 0), .int (nI (gm μ))]) 2013 S G (g_breaksIn l cs hF hY hlt ν8 (nI (gm μ))) ckh_breaksIn ml_RL_224 hP hS hl.1 ⟨by decide, by decide⟩ rfl (by rfl) (Nat.le_of_ble_eq_true rfl) ⟨by omega, (by show _ ≤ 3400; omega), (by show _ ≤ 6 * 3400; omega)⟩ dL_refused_1067 (fun r_69 ν_70 H locs hq_71 hP hS => ?_)
                        obtain ⟨hq_71a, hq_71b⟩ := hq_71; subst r_69; subst ν_70
                        refine lv_tope (y := (-1001)) (hA_1 (if_pos (b_n hJ_909.1 W0.1.2.2.1 hm6))) ?_
                        refine lv_sipush (v := (-1001)) hx hb dL_refused_1070 (by decide) ?_
                        refine lv_icmp_ne (tgt := 1217) hx hb dL_refused_1073 (by decide) (fun c_1073 => absurd (by decide) c_1073) (fun c_1073 => ?_)
                        refine lv_aload_n hx hb dL_refused_1076 rfl (lv_at hl 5 rfl) ?_
                        refine lv_iload_n hx hb dL_refused_1077 rfl (lv_at hl 3 rfl) ?_
                        refine gcH (As := [.ref (ad 0), .int (nI (gn μ))]) 2014 S G (g_camp l cs hF hY hlt ν8 (nI (gn μ))) ckh_camp ml_RL_210 hP hS hl.1 ⟨by decide, by decide⟩ rfl (by rfl) (Nat.le_of_ble_eq_true rfl) ⟨by omega, (by show _ ≤ 3400; omega), (by show _ ≤ 6 * 3400; omega)⟩ dL_refused_1078 (fun r_72 ν_73 H locs hq_74 hP hS => ?_)
                        obtain ⟨hq_74a, hq_74b⟩ := hq_74; subst r_72; subst ν_73
                        refine lv_tope (y := (-1001)) (hA_1 (if_pos (q_n hJ_909.1 W0.1.1 hn6))) ?_
                        refine lv_sipush (v := (-1001)) hx hb dL_refused_1081 (by decide) ?_
                        refine lv_icmp_ne (tgt := 1217) hx hb dL_refused_1084 (by decide) (fun c_1084 => absurd (by decide) c_1084) (fun c_1084 => ?_)
                        refine lv_aload_n hx hb dL_refused_1087 rfl (lv_at hl 5 rfl) ?_
                        refine lv_iconst (v := 4) hx hb dL_refused_1088 (by decide) ?_
                        refine lv_iconst (v := 0) hx hb dL_refused_1089 (by decide) ?_
                        refine gcH (As := [.ref (ad 0), .int 4, .int 0]) 2015 S G (g_ranked l cs hF hY hlt ν8 (4) (0)) ckh_ranked ml_RL_214 hP hS hl.1 ⟨by decide, by decide⟩ rfl (by rfl) (Nat.le_of_ble_eq_true rfl) ⟨by omega, (by show _ ≤ 3400; omega), (by show _ ≤ 6 * 3400; omega)⟩ dL_refused_1090 (fun r_75 ν_76 H locs hq_77 hP hS => ?_)
                        obtain ⟨hq_77a, hq_77b⟩ := hq_77; subst r_75; subst ν_76
                        refine lv_tope (y := (-1001)) (hA_1 (if_pos (by decide))) ?_
                        refine lv_sipush (v := (-1001)) hx hb dL_refused_1093 (by decide) ?_
                        refine lv_icmp_ne (tgt := 1217) hx hb dL_refused_1096 (by decide) (fun c_1096 => absurd (by decide) c_1096) (fun c_1096 => ?_)
                        refine lv_aload_n hx hb dL_refused_1099 rfl (lv_at hl 5 rfl) ?_
                        refine lv_iconst (v := (-1)) hx hb dL_refused_1100 (by decide) ?_
                        refine lv_iconst (v := 0) hx hb dL_refused_1101 (by decide) ?_
                        refine gcH (As := [.ref (ad 0), .int (-1), .int 0]) 2016 S G (g_ranked l cs hF hY hlt ν8 (-1) (0)) ckh_ranked ml_RL_214 hP hS hl.1 ⟨by decide, by decide⟩ rfl (by rfl) (Nat.le_of_ble_eq_true rfl) ⟨by omega, (by show _ ≤ 3400; omega), (by show _ ≤ 6 * 3400; omega)⟩ dL_refused_1102 (fun r_78 ν_79 H locs hq_80 hP hS => ?_)
                        obtain ⟨hq_80a, hq_80b⟩ := hq_80; subst r_78; subst ν_79
                        refine lv_tope (y := (-1001)) (hA_1 (if_pos (by decide))) ?_
                        refine lv_sipush (v := (-1001)) hx hb dL_refused_1105 (by decide) ?_
                        refine lv_icmp_ne (tgt := 1217) hx hb dL_refused_1108 (by decide) (fun c_1108 => absurd (by decide) c_1108) (fun c_1108 => ?_)
                        refine lv_aload_n hx hb dL_refused_1111 rfl (lv_at hl 5 rfl) ?_
                        refine lv_iconst (v := 0) hx hb dL_refused_1112 (by decide) ?_
                        refine lv_iload_n hx hb dL_refused_1113 rfl (lv_at hl 3 rfl) ?_
                        refine gcH (As := [.ref (ad 0), .int 0, .int (nI (gn μ))]) 2017 S G (g_ranked l cs hF hY hlt ν8 (0) (nI (gn μ))) ckh_ranked ml_RL_214 hP hS hl.1 ⟨by decide, by decide⟩ rfl (by rfl) (Nat.le_of_ble_eq_true rfl) ⟨by omega, (by show _ ≤ 3400; omega), (by show _ ≤ 6 * 3400; omega)⟩ dL_refused_1114 (fun r_81 ν_82 H locs hq_83 hP hS => ?_)
                        obtain ⟨hq_83a, hq_83b⟩ := hq_83; subst r_81; subst ν_82
                        refine lv_tope (y := (-1002)) (hA_2 ((if_neg (by decide)).trans (if_pos (rk_z hJ_909.1 hn6)))) ?_
                        refine lv_sipush (v := (-1002)) hx hb dL_refused_1117 (by decide) ?_
                        refine lv_icmp_ne (tgt := 1217) hx hb dL_refused_1120 (by decide) (fun c_1120 => absurd (by decide) c_1120) (fun c_1120 => ?_)
                        refine lv_aload_n hx hb dL_refused_1123 rfl (lv_at hl 5 rfl) ?_
                        refine lv_iload hx hb dL_refused_1124 (lv_at hl 2 rfl) ?_
                        refine gcH (As := [.ref (ad 0), .int (nI (gm μ))]) 2018 S G (g_weakest l cs hF hY hlt ν8 (nI (gm μ))) ckh_weakest ml_RL_226 hP hS hl.1 ⟨by decide, by decide⟩ rfl (by rfl) (Nat.le_of_ble_eq_true rfl) ⟨by omega, (by show _ ≤ 3400; omega), (by show _ ≤ 6 * 3400; omega)⟩ dL_refused_1126 (fun r_84 ν_85 H locs hq_86 hP hS => ?_)
                        obtain ⟨hq_86a, hq_86b⟩ := hq_86; subst r_84; subst ν_85
                        refine lv_tope (y := (-1001)) (hA_1 (if_pos (wk_z hJ_909.1 hm6))) ?_
                        refine lv_sipush (v := (-1001)) hx hb dL_refused_1129 (by decide) ?_
                        refine lv_icmp_ne (tgt := 1217) hx hb dL_refused_1132 (by decide) (fun c_1132 => absurd (by decide) c_1132) (fun c_1132 => ?_)
                        refine W.widen (k := 2020) (n := 6 * 2020) (by omega) (by omega) ?_
                        exact jn_1026_8 _ (⟨hJ_909.1, hJ_909.2⟩) _ _ _ hP hS (lv_sub hl [0, 1, 2, 3, 4, 5] rfl)
                      refine lv_aload_n hx hb dL_refused_909 rfl (lv_at hl 5 rfl) ?_
                      refine lv_iload_n hx hb dL_refused_910 rfl (lv_at hl 3 rfl) ?_
                      refine gcH (As := [.ref (ad 0), .int (nI (gn μ))]) 1986 S G (g_lean l cs hF hY hlt ν7 (nI (gn μ))) ckh_lean ml_RL_274 hP hS hl.1 ⟨by decide, by decide⟩ rfl (by rfl) (Nat.le_of_ble_eq_true rfl) ⟨by omega, (by show _ ≤ 3400; omega), (by show _ ≤ 6 * 3400; omega)⟩ dL_refused_911 (fun r_87 ν_88 H locs hq_89 hP hS => ?_)
                      obtain ⟨hq_89a, hq_89b⟩ := hq_89; subst r_87; subst ν_88
                      refine lv_tope (y := (-1001)) (hA_1 (if_pos (q_n hJ_866.1 W0.1.1 hn6))) ?_
                      refine lv_sipush (v := (-1001)) hx hb dL_refused_914 (by decide) ?_
                      refine lv_icmp_ne (tgt := 1217) hx hb dL_refused_917 (by decide) (fun c_917 => absurd (by decide) c_917) (fun c_917 => ?_)
                      refine lv_aload_n hx hb dL_refused_920 rfl (lv_at hl 5 rfl) ?_
                      refine lv_iload_n hx hb dL_refused_921 rfl (lv_at hl 3 rfl) ?_
                      refine gcH (As := [.ref (ad 0), .int (nI (gn μ))]) 1987 S G (g_mean l cs hF hY hlt ν7 (nI (gn μ))) ckh_mean ml_RL_208 hP hS hl.1 ⟨by decide, by decide⟩ rfl (by rfl) (Nat.le_of_ble_eq_true rfl) ⟨by omega, (by show _ ≤ 3400; omega), (by show _ ≤ 6 * 3400; omega)⟩ dL_refused_922 (fun r_90 ν_91 H locs hq_92 hP hS => ?_)
                      obtain ⟨hq_92a, hq_92b⟩ := hq_92; subst r_90; subst ν_91
                      refine lv_tope (y := (-1001)) (hA_1 (if_pos (q_n hJ_866.1 W0.1.1 hn6))) ?_
                      refine lv_sipush (v := (-1001)) hx hb dL_refused_925 (by decide) ?_
                      refine lv_icmp_ne (tgt := 1217) hx hb dL_refused_928 (by decide) (fun c_928 => absurd (by decide) c_928) (fun c_928 => ?_)
                      refine lv_aload_n hx hb dL_refused_931 rfl (lv_at hl 5 rfl) ?_
                      refine lv_iconst (v := (-1)) hx hb dL_refused_932 (by decide) ?_
                      refine gcH (As := [.ref (ad 0), .int (-1)]) 1988 S G (g_meanAgain l cs hF hY hlt ν7 (-1)) ckh_meanAgain ml_RL_276 hP hS hl.1 ⟨by decide, by decide⟩ rfl (by rfl) (Nat.le_of_ble_eq_true rfl) ⟨by omega, (by show _ ≤ 3400; omega), (by show _ ≤ 6 * 3400; omega)⟩ dL_refused_933 (fun r_93 ν_94 H locs hq_95 hP hS => ?_)
                      obtain ⟨hq_95a, hq_95b⟩ := hq_95; subst r_93; subst ν_94
                      refine lv_tope (y := (-1001)) (hA_1 (if_pos (q_m hJ_866.1))) ?_
                      refine lv_sipush (v := (-1001)) hx hb dL_refused_936 (by decide) ?_
                      refine lv_icmp_ne (tgt := 1217) hx hb dL_refused_939 (by decide) (fun c_939 => absurd (by decide) c_939) (fun c_939 => ?_)
                      refine lv_aload_n hx hb dL_refused_942 rfl (lv_at hl 5 rfl) ?_
                      refine lv_iload_n hx hb dL_refused_943 rfl (lv_at hl 3 rfl) ?_
                      refine gcH (As := [.ref (ad 0), .int (nI (gn μ))]) 1989 S G (g_wouldMove l cs hF hY hlt ν7 (nI (gn μ))) ckh_wouldMove ml_RL_278 hP hS hl.1 ⟨by decide, by decide⟩ rfl (by rfl) (Nat.le_of_ble_eq_true rfl) ⟨by omega, (by show _ ≤ 3400; omega), (by show _ ≤ 6 * 3400; omega)⟩ dL_refused_944 (fun r_96 ν_97 H locs hq_98 hP hS => ?_)
                      obtain ⟨hq_98a, hq_98b⟩ := hq_98; subst r_96; subst ν_97
                      refine lv_tope (y := (-1001)) (hA_1 (if_pos (q_n hJ_866.1 W0.1.1 hn6))) ?_
                      refine lv_sipush (v := (-1001)) hx hb dL_refused_947 (by decide) ?_
                      refine lv_icmp_ne (tgt := 1217) hx hb dL_refused_950 (by decide) (fun c_950 => absurd (by decide) c_950) (fun c_950 => ?_)
                      refine lv_aload_n hx hb dL_refused_953 rfl (lv_at hl 5 rfl) ?_
                      refine lv_iload_n hx hb dL_refused_954 rfl (lv_at hl 3 rfl) ?_
                      refine gcH (As := [.ref (ad 0), .int (nI (gn μ))]) 1991 S G (g_puller l cs hF hY hlt ν7 (nI (gn μ))) ckh_puller ml_RL_216 hP hS hl.1 ⟨by decide, by decide⟩ rfl (by rfl) (Nat.le_of_ble_eq_true rfl) ⟨by omega, (by show _ ≤ 3400; omega), (by show _ ≤ 6 * 3400; omega)⟩ dL_refused_955 (fun r_99 ν_100 H locs hq_101 hP hS => ?_)
                      obtain ⟨hq_101a, hq_101b⟩ := hq_101; subst r_99; subst ν_100
                      refine lv_tope (y := (-1001)) (hA_1 (if_pos (q_n hJ_866.1 W0.1.1 hn6))) ?_
                      refine lv_sipush (v := (-1001)) hx hb dL_refused_958 (by decide) ?_
                      refine lv_icmp_ne (tgt := 1217) hx hb dL_refused_961 (by decide) (fun c_961 => absurd (by decide) c_961) (fun c_961 => ?_)
                      refine lv_aload_n hx hb dL_refused_964 rfl (lv_at hl 5 rfl) ?_
                      refine lv_iload_n hx hb dL_refused_965 rfl (lv_at hl 3 rfl) ?_
                      refine lv_iconst (v := 0) hx hb dL_refused_966 (by decide) ?_
                      refine gcH (As := [.ref (ad 0), .int (nI (gn μ)), .int 0]) 1993 S G (g_force l cs hF hY hlt ν7 (nI (gn μ)) (0)) ckh_force ml_RL_280 hP hS hl.1 ⟨by decide, by decide⟩ rfl (by rfl) (Nat.le_of_ble_eq_true rfl) ⟨by omega, (by show _ ≤ 3400; omega), (by show _ ≤ 6 * 3400; omega)⟩ dL_refused_967 (fun r_102 ν_103 H locs hq_104 hP hS => ?_)
                      obtain ⟨hq_104a, hq_104b⟩ := hq_104; subst r_102; subst ν_103
                      refine lv_tope (y := (-1001)) (hA_1 (if_pos (q_n hJ_866.1 W0.1.1 hn6))) ?_
                      refine lv_sipush (v := (-1001)) hx hb dL_refused_970 (by decide) ?_
                      refine lv_icmp_ne (tgt := 1217) hx hb dL_refused_973 (by decide) (fun c_973 => absurd (by decide) c_973) (fun c_973 => ?_)
                      refine lv_aload_n hx hb dL_refused_976 rfl (lv_at hl 5 rfl) ?_
                      refine lv_iconst (v := 0) hx hb dL_refused_977 (by decide) ?_
                      refine lv_iconst (v := 0) hx hb dL_refused_978 (by decide) ?_
                      refine gcH (As := [.ref (ad 0), .int 0, .int 0]) 1995 S G (g_force l cs hF hY hlt ν7 (0) (0)) ckh_force ml_RL_280 hP hS hl.1 ⟨by decide, by decide⟩ rfl (by rfl) (Nat.le_of_ble_eq_true rfl) ⟨by omega, (by show _ ≤ 3400; omega), (by show _ ≤ 6 * 3400; omega)⟩ dL_refused_979 (fun r_105 ν_106 H locs hq_107 hP hS => ?_)
                      obtain ⟨hq_107a, hq_107b⟩ := hq_107; subst r_105; subst ν_106
                      refine lv_tope (y := (-1002)) (hA_2 ((if_neg (q_0 hJ_866.1 W0.1.1 h2 hn6)).trans (if_pos (by decide)))) ?_
                      refine lv_sipush (v := (-1002)) hx hb dL_refused_982 (by decide) ?_
                      refine lv_icmp_ne (tgt := 1217) hx hb dL_refused_985 (by decide) (fun c_985 => absurd (by decide) c_985) (fun c_985 => ?_)
                      refine lv_aload_n hx hb dL_refused_988 rfl (lv_at hl 5 rfl) ?_
                      refine lv_iconst (v := 0) hx hb dL_refused_989 (by decide) ?_
                      refine lv_bipush (v := 10) hx hb dL_refused_990 (by decide) ?_
                      refine gcH (As := [.ref (ad 0), .int 0, .int 10]) 1997 S G (g_force l cs hF hY hlt ν7 (0) (10)) ckh_force ml_RL_280 hP hS hl.1 ⟨by decide, by decide⟩ rfl (by rfl) (Nat.le_of_ble_eq_true rfl) ⟨by omega, (by show _ ≤ 3400; omega), (by show _ ≤ 6 * 3400; omega)⟩ dL_refused_992 (fun r_108 ν_109 H locs hq_110 hP hS => ?_)
                      obtain ⟨hq_110a, hq_110b⟩ := hq_110; subst r_108; subst ν_109
                      refine lv_tope (y := (-1002)) (hA_2 ((if_neg (q_0 hJ_866.1 W0.1.1 h2 hn6)).trans (if_pos (by decide)))) ?_
                      refine lv_sipush (v := (-1002)) hx hb dL_refused_995 (by decide) ?_
                      refine lv_icmp_ne (tgt := 1217) hx hb dL_refused_998 (by decide) (fun c_998 => absurd (by decide) c_998) (fun c_998 => ?_)
                      refine lv_aload_n hx hb dL_refused_1001 rfl (lv_at hl 5 rfl) ?_
                      refine lv_iload_n hx hb dL_refused_1002 rfl (lv_at hl 3 rfl) ?_
                      refine lv_iconst (v := 0) hx hb dL_refused_1003 (by decide) ?_
                      refine gcH (As := [.ref (ad 0), .int (nI (gn μ)), .int 0]) 2000 S G (g_factsFor l cs hF hY hlt ν7 (nI (gn μ)) (0)) ckh_factsFor ml_RL_218 hP hS hl.1 ⟨by decide, by decide⟩ rfl (by rfl) (Nat.le_of_ble_eq_true rfl) ⟨by omega, (by show _ ≤ 3400; omega), (by show _ ≤ 6 * 3400; omega)⟩ dL_refused_1004 (fun r_111 ν_112 H locs hq_113 hP hS => ?_)
                      obtain ⟨hq_113a, hq_113b⟩ := hq_113; subst r_111; subst ν_112
                      refine lv_tope (y := (-1001)) (hA_1 (if_pos (q_n hJ_866.1 W0.1.1 hn6))) ?_
                      refine lv_sipush (v := (-1001)) hx hb dL_refused_1007 (by decide) ?_
                      refine lv_icmp_ne (tgt := 1217) hx hb dL_refused_1010 (by decide) (fun c_1010 => absurd (by decide) c_1010) (fun c_1010 => ?_)
                      refine lv_aload_n hx hb dL_refused_1013 rfl (lv_at hl 5 rfl) ?_
                      refine lv_iconst (v := 0) hx hb dL_refused_1014 (by decide) ?_
                      refine lv_bipush (v := 10) hx hb dL_refused_1015 (by decide) ?_
                      refine gcH (As := [.ref (ad 0), .int 0, .int 10]) 2003 S G (g_factsFor l cs hF hY hlt ν7 (0) (10)) ckh_factsFor ml_RL_218 hP hS hl.1 ⟨by decide, by decide⟩ rfl (by rfl) (Nat.le_of_ble_eq_true rfl) ⟨by omega, (by show _ ≤ 3400; omega), (by show _ ≤ 6 * 3400; omega)⟩ dL_refused_1017 (fun r_114 ν_115 H locs hq_116 hP hS => ?_)
                      obtain ⟨hq_116a, hq_116b⟩ := hq_116; subst r_114; subst ν_115
                      refine lv_tope (y := (-1002)) (hA_2 ((if_neg (q_0 hJ_866.1 W0.1.1 h2 hn6)).trans (if_pos (by decide)))) ?_
                      refine lv_sipush (v := (-1002)) hx hb dL_refused_1020 (by decide) ?_
                      refine lv_icmp_ne (tgt := 1217) hx hb dL_refused_1023 (by decide) (fun c_1023 => absurd (by decide) c_1023) (fun c_1023 => ?_)
                      refine W.widen (k := 2005) (n := 6 * 2005) (by omega) (by omega) ?_
                      exact jn_909_7 _ (⟨hJ_866.1, hJ_866.2⟩) _ _ _ hP hS (lv_sub hl [0, 1, 2, 3, 4, 5] rfl)
                    refine lv_aload_n hx hb dL_refused_866 rfl (lv_at hl 5 rfl) ?_
                    refine lv_iload hx hb dL_refused_867 (lv_at hl 2 rfl) ?_
                    refine lv_bipush (v := 9) hx hb dL_refused_869 (by decide) ?_
                    refine gcH (As := [.ref (ad 0), .int (nI (gm μ)), .int 9]) 1977 S G (g_beamOf l cs hF hY hlt ν6 (nI (gm μ)) (9)) ckh_beamOf ml_RL_222 hP hS hl.1 ⟨by decide, by decide⟩ rfl (by rfl) (Nat.le_of_ble_eq_true rfl) ⟨by omega, (by show _ ≤ 3400; omega), (by show _ ≤ 6 * 3400; omega)⟩ dL_refused_871 (fun r_117 ν_118 H locs hq_119 hP hS => ?_)
                    obtain ⟨hq_119a, hq_119b⟩ := hq_119; subst r_117; subst ν_118
                    refine lv_tope (y := (-1001)) (hA_1 (if_pos (b_n hJ_757.1 W0.1.2.2.1 hm6))) ?_
                    refine lv_sipush (v := (-1001)) hx hb dL_refused_874 (by decide) ?_
                    refine lv_icmp_ne (tgt := 1217) hx hb dL_refused_877 (by decide) (fun c_877 => absurd (by decide) c_877) (fun c_877 => ?_)
                    refine lv_iload hx hb dL_refused_880 (lv_at hl 2 rfl) ?_
                    refine lv_if_eq (tgt := 909) hx hb dL_refused_882 (by decide) (fun c_882 => ?_) (fun c_882 => ?_)
                    · refine W.widen (k := 1985) (n := 6 * 1985) (by omega) (by omega) ?_
                      exact jn_866_6 _ (⟨hJ_757.1, hJ_757.2⟩) _ _ _ hP hS (lv_sub hl [0, 1, 2, 3, 4, 5] rfl)
                    · have hm0 : 0 < gm μ := Nat.pos_of_ne_zero (fun z => c_882 (by rw [z]; rfl))
                      refine lv_aload_n hx hb dL_refused_885 rfl (lv_at hl 5 rfl) ?_
                      refine lv_iconst (v := 0) hx hb dL_refused_886 (by decide) ?_
                      refine lv_iconst (v := 5) hx hb dL_refused_887 (by decide) ?_
                      refine gcH (As := [.ref (ad 0), .int 0, .int 5]) 1979 S G (g_beamOf l cs hF hY hlt ν6 (0) (5)) ckh_beamOf ml_RL_222 hP hS hl.1 ⟨by decide, by decide⟩ rfl (by rfl) (Nat.le_of_ble_eq_true rfl) ⟨by omega, (by show _ ≤ 3400; omega), (by show _ ≤ 6 * 3400; omega)⟩ dL_refused_888 (fun r_120 ν_121 H locs hq_122 hP hS => ?_)
                      obtain ⟨hq_122a, hq_122b⟩ := hq_122; subst r_120; subst ν_121
                      refine lv_tope (y := (-1002)) (hA_2 ((if_neg (b_k (k := 0) hJ_757.1 W0.1.2.2.1 hm0 hm6)).trans (if_pos (by decide)))) ?_
                      refine lv_sipush (v := (-1002)) hx hb dL_refused_891 (by decide) ?_
                      refine lv_icmp_ne (tgt := 1217) hx hb dL_refused_894 (by decide) (fun c_894 => absurd (by decide) c_894) (fun c_894 => ?_)
                      refine lv_aload_n hx hb dL_refused_897 rfl (lv_at hl 5 rfl) ?_
                      refine lv_iconst (v := 0) hx hb dL_refused_898 (by decide) ?_
                      refine lv_iconst (v := (-1)) hx hb dL_refused_899 (by decide) ?_
                      refine gcH (As := [.ref (ad 0), .int 0, .int (-1)]) 1981 S G (g_beamOf l cs hF hY hlt ν6 (0) (-1)) ckh_beamOf ml_RL_222 hP hS hl.1 ⟨by decide, by decide⟩ rfl (by rfl) (Nat.le_of_ble_eq_true rfl) ⟨by omega, (by show _ ≤ 3400; omega), (by show _ ≤ 6 * 3400; omega)⟩ dL_refused_900 (fun r_123 ν_124 H locs hq_125 hP hS => ?_)
                      obtain ⟨hq_125a, hq_125b⟩ := hq_125; subst r_123; subst ν_124
                      refine lv_tope (y := (-1002)) (hA_2 ((if_neg (b_k (k := 0) hJ_757.1 W0.1.2.2.1 hm0 hm6)).trans (if_pos (by decide)))) ?_
                      refine lv_sipush (v := (-1002)) hx hb dL_refused_903 (by decide) ?_
                      refine lv_icmp_ne (tgt := 1217) hx hb dL_refused_906 (by decide) (fun c_906 => absurd (by decide) c_906) (fun c_906 => ?_)
                      refine W.widen (k := 1985) (n := 6 * 1985) (by omega) (by omega) ?_
                      exact jn_866_6 _ (⟨hJ_757.1, hJ_757.2⟩) _ _ _ hP hS (lv_sub hl [0, 1, 2, 3, 4, 5] rfl)
                  refine lv_aload_n hx hb dL_refused_757 rfl (lv_at hl 5 rfl) ?_
                  refine lv_iconst (v := 0) hx hb dL_refused_758 (by decide) ?_
                  refine lv_iconst (v := 1) hx hb dL_refused_759 (by decide) ?_
                  refine gcH (As := [.ref (ad 0), .int 0, .int 1]) (12 * (gm μ) + 1882) S G (g_of l cs hF hY hlt ν (0) (1)) ckh_of ml_RL_203 hP hS hl.1 ⟨by decide, by decide⟩ rfl (by rfl) (Nat.le_of_ble_eq_true rfl) ⟨by omega, (by show _ ≤ 3400; omega), (by show _ ≤ 6 * 3400; omega)⟩ dL_refused_760 (fun r_126 ν_127 H locs hq_128 hP hS => ?_)
                  obtain ⟨hq_128a, hq_128b⟩ := hq_128; subst r_126; subst ν_127
                  refine lv_tope (y := nI d0) ((of_1 (k := 0) hν W0 hn02).trans ed0) ?_
                  refine lv_istore (lv' := [(6, .int (nI d0)), (5, .int 1), (4, .int (nI (gm μ))), (3, .int (nI (gn μ))), (1, .long (asA (μ 277))), (0, .ref (ad 0))]) hx hb dL_refused_763 hl (by decide) rfl (fun ls hl => ?_)
                  refine lv_iload hx hb dL_refused_765 (lv_at hl 1 rfl) ?_
                  refine lv_if_eq (tgt := 1217) hx hb dL_refused_767 (by decide) (fun c_767 => absurd c_767 (by decide)) (fun c_767 => ?_)
                  refine lv_aload_n hx hb dL_refused_770 rfl (lv_at hl 5 rfl) ?_
                  refine lv_iconst (v := 0) hx hb dL_refused_771 (by decide) ?_
                  refine lv_iload hx hb dL_refused_772 (lv_at hl 0 rfl) ?_
                  refine gcH (As := [.ref (ad 0), .int 0, .int (nI d0)]) (12 * (gm μ) + 1884) S G (g_habit l cs hF hY hlt ν (0) (nI d0)) ckh_habit ml_RL_176 hP hS hl.1 ⟨by decide, by decide⟩ rfl (by rfl) (Nat.le_of_ble_eq_true rfl) ⟨by omega, (by show _ ≤ 3400; omega), (by show _ ≤ 6 * 3400; omega)⟩ dL_refused_774 (fun r_129 ν_130 H locs hq_131 hP hS => ?_)
                  obtain ⟨hq_131a, hq_131b⟩ := hq_131
                  obtain ⟨er774, hR774, hK774⟩ := rf_ch (w := 5) (d := (nI d0)) hν th0 (by decide) hq_131a hq_131b
                  refine lv_tope (y := (-1001)) er774 ?_
                  refine lv_sipush (v := (-1001)) hx hb dL_refused_777 (by decide) ?_
                  refine lv_icmp_ne (tgt := 1217) hx hb dL_refused_780 (by decide) (fun c_780 => absurd (by decide) c_780) (fun c_780 => ?_)
                  refine lv_aload_n hx hb dL_refused_783 rfl (lv_at hl 5 rfl) ?_
                  refine lv_iload_n hx hb dL_refused_784 rfl (lv_at hl 3 rfl) ?_
                  refine lv_bipush (v := 9) hx hb dL_refused_785 (by decide) ?_
                  refine gcH (As := [.ref (ad 0), .int (nI (gn μ)), .int 9]) (12 * (gm μ) + 1886) S G (g_of l cs hF hY hlt ν_130 (nI (gn μ)) (9)) ckh_of ml_RL_203 hP hS hl.1 ⟨by decide, by decide⟩ rfl (by rfl) (Nat.le_of_ble_eq_true rfl) ⟨by omega, (by show _ ≤ 3400; omega), (by show _ ≤ 6 * 3400; omega)⟩ dL_refused_787 (fun r_132 ν_133 H locs hq_134 hP hS => ?_)
                  obtain ⟨hq_134a, hq_134b⟩ := hq_134; subst r_132; subst ν_133
                  refine lv_tope (y := (-1001)) (hA_1 (if_pos (q_n hR774 W0.1.1 hn6))) ?_
                  refine lv_sipush (v := (-1001)) hx hb dL_refused_790 (by decide) ?_
                  refine lv_icmp_ne (tgt := 1217) hx hb dL_refused_793 (by decide) (fun c_793 => absurd (by decide) c_793) (fun c_793 => ?_)
                  refine lv_aload_n hx hb dL_refused_796 rfl (lv_at hl 5 rfl) ?_
                  refine lv_iconst (v := (-1)) hx hb dL_refused_797 (by decide) ?_
                  refine lv_iconst (v := 0) hx hb dL_refused_798 (by decide) ?_
                  refine gcH (As := [.ref (ad 0), .int (-1), .int 0]) (12 * (gm μ) + 1888) S G (g_of l cs hF hY hlt ν_130 (-1) (0)) ckh_of ml_RL_203 hP hS hl.1 ⟨by decide, by decide⟩ rfl (by rfl) (Nat.le_of_ble_eq_true rfl) ⟨by omega, (by show _ ≤ 3400; omega), (by show _ ≤ 6 * 3400; omega)⟩ dL_refused_799 (fun r_135 ν_136 H locs hq_137 hP hS => ?_)
                  obtain ⟨hq_137a, hq_137b⟩ := hq_137; subst r_135; subst ν_136
                  refine lv_tope (y := (-1001)) (hA_1 (if_pos (q_m hR774))) ?_
                  refine lv_sipush (v := (-1001)) hx hb dL_refused_802 (by decide) ?_
                  refine lv_icmp_ne (tgt := 1217) hx hb dL_refused_805 (by decide) (fun c_805 => absurd (by decide) c_805) (fun c_805 => ?_)
                  refine lv_aload_n hx hb dL_refused_808 rfl (lv_at hl 5 rfl) ?_
                  refine lv_iconst (v := 0) hx hb dL_refused_809 (by decide) ?_
                  refine lv_bipush (v := 8) hx hb dL_refused_810 (by decide) ?_
                  refine gcH (As := [.ref (ad 0), .int 0, .int 8]) (12 * (gm μ) + 1890) S G (g_of l cs hF hY hlt ν_130 (0) (8)) ckh_of ml_RL_203 hP hS hl.1 ⟨by decide, by decide⟩ rfl (by rfl) (Nat.le_of_ble_eq_true rfl) ⟨by omega, (by show _ ≤ 3400; omega), (by show _ ≤ 6 * 3400; omega)⟩ dL_refused_812 (fun r_138 ν_139 H locs hq_140 hP hS => ?_)
                  obtain ⟨hq_140a, hq_140b⟩ := hq_140; subst r_138; subst ν_139
                  refine lv_tope (y := (-1002)) (hA_2 (of_8 (q_0 hR774 W0.1.1 h2 hn6))) ?_
                  refine lv_sipush (v := (-1002)) hx hb dL_refused_815 (by decide) ?_
                  refine lv_icmp_ne (tgt := 1217) hx hb dL_refused_818 (by decide) (fun c_818 => absurd (by decide) c_818) (fun c_818 => ?_)
                  refine lv_aload_n hx hb dL_refused_821 rfl (lv_at hl 5 rfl) ?_
                  refine lv_iconst (v := 0) hx hb dL_refused_822 (by decide) ?_
                  refine lv_iconst (v := (-1)) hx hb dL_refused_823 (by decide) ?_
                  refine gcH (As := [.ref (ad 0), .int 0, .int (-1)]) (12 * (gm μ) + 1892) S G (g_of l cs hF hY hlt ν_130 (0) (-1)) ckh_of ml_RL_203 hP hS hl.1 ⟨by decide, by decide⟩ rfl (by rfl) (Nat.le_of_ble_eq_true rfl) ⟨by omega, (by show _ ≤ 3400; omega), (by show _ ≤ 6 * 3400; omega)⟩ dL_refused_824 (fun r_141 ν_142 H locs hq_143 hP hS => ?_)
                  obtain ⟨hq_143a, hq_143b⟩ := hq_143; subst r_141; subst ν_142
                  refine lv_tope (y := (-1002)) (hA_2 (of_m (q_0 hR774 W0.1.1 h2 hn6))) ?_
                  refine lv_sipush (v := (-1002)) hx hb dL_refused_827 (by decide) ?_
                  refine lv_icmp_ne (tgt := 1217) hx hb dL_refused_830 (by decide) (fun c_830 => absurd (by decide) c_830) (fun c_830 => ?_)
                  refine lv_aload_n hx hb dL_refused_833 rfl (lv_at hl 5 rfl) ?_
                  refine lv_iconst (v := 0) hx hb dL_refused_834 (by decide) ?_
                  refine lv_iload_n hx hb dL_refused_835 rfl (lv_at hl 3 rfl) ?_
                  refine gcH (As := [.ref (ad 0), .int 0, .int (nI (gn μ))]) (12 * (gm μ) + 1894) S G (g_weight l cs hF hY hlt ν_130 (0) (nI (gn μ))) ckh_weight ml_RL_206 hP hS hl.1 ⟨by decide, by decide⟩ rfl (by rfl) (Nat.le_of_ble_eq_true rfl) ⟨by omega, (by show _ ≤ 3400; omega), (by show _ ≤ 6 * 3400; omega)⟩ dL_refused_836 (fun r_144 ν_145 H locs hq_146 hP hS => ?_)
                  obtain ⟨hq_146a, hq_146b⟩ := hq_146; subst r_144; subst ν_145
                  refine lv_tope (y := (-1001)) (hA_1 ((if_neg (q_0 hR774 W0.1.1 h2 hn6)).trans (if_pos (q_n hR774 W0.1.1 hn6)))) ?_
                  refine lv_sipush (v := (-1001)) hx hb dL_refused_839 (by decide) ?_
                  refine lv_icmp_ne (tgt := 1217) hx hb dL_refused_842 (by decide) (fun c_842 => absurd (by decide) c_842) (fun c_842 => ?_)
                  refine lv_aload_n hx hb dL_refused_845 rfl (lv_at hl 5 rfl) ?_
                  refine lv_iconst (v := (-1)) hx hb dL_refused_846 (by decide) ?_
                  refine lv_iconst (v := 0) hx hb dL_refused_847 (by decide) ?_
                  refine gcH (As := [.ref (ad 0), .int (-1), .int 0]) (12 * (gm μ) + 1896) S G (g_weight l cs hF hY hlt ν_130 (-1) (0)) ckh_weight ml_RL_206 hP hS hl.1 ⟨by decide, by decide⟩ rfl (by rfl) (Nat.le_of_ble_eq_true rfl) ⟨by omega, (by show _ ≤ 3400; omega), (by show _ ≤ 6 * 3400; omega)⟩ dL_refused_848 (fun r_147 ν_148 H locs hq_149 hP hS => ?_)
                  obtain ⟨hq_149a, hq_149b⟩ := hq_149; subst r_147; subst ν_148
                  refine lv_tope (y := (-1001)) (hA_1 (if_pos (q_m hR774))) ?_
                  refine lv_sipush (v := (-1001)) hx hb dL_refused_851 (by decide) ?_
                  refine lv_icmp_ne (tgt := 1217) hx hb dL_refused_854 (by decide) (fun c_854 => absurd (by decide) c_854) (fun c_854 => ?_)
                  refine lv_aload_n hx hb dL_refused_857 rfl (lv_at hl 5 rfl) ?_
                  refine lv_iconst (v := 0) hx hb dL_refused_858 (by decide) ?_
                  refine lv_iconst (v := 0) hx hb dL_refused_859 (by decide) ?_
                  refine gcH (As := [.ref (ad 0), .int 0, .int 0]) (12 * (gm μ) + 1898) S G (g_weight l cs hF hY hlt ν_130 (0) (0)) ckh_weight ml_RL_206 hP hS hl.1 ⟨by decide, by decide⟩ rfl (by rfl) (Nat.le_of_ble_eq_true rfl) ⟨by omega, (by show _ ≤ 3400; omega), (by show _ ≤ 6 * 3400; omega)⟩ dL_refused_860 (fun r_150 ν_151 H locs hq_152 hP hS => ?_)
                  obtain ⟨hq_152a, hq_152b⟩ := hq_152; subst r_150; subst ν_151
                  refine lv_tope (y := 0) ((wg_q (k := 0) (q := 0) hR774 W0 hn02 hn02).trans (W0.2.2.2.2.1 0 (by decide))) ?_
                  refine lv_if_ne (tgt := 1217) hx hb dL_refused_863 (by decide) (fun c_863 => absurd (by decide) c_863) (fun c_863 => ?_)
                  refine W.widen (k := 1975) (n := 6 * 1975) (by omega) (by omega) ?_
                  exact jn_757_5 _ (⟨hR774, hK774⟩) _ _ _ hP hS (lv_sub hl [0, 1, 2, 3, 4, 5] rfl)
                | succ d ih =>
                  intro k hk ν hν H locs ls hP hS hl
                  have hkn : k < (gm μ) := by omega
                  refine lv_iload hx hb dL_refused_696 (lv_at hl 0 rfl) ?_
                  refine lv_iload hx hb dL_refused_698 (lv_at hl 2 rfl) ?_
                  refine lv_icmp_ge (tgt := 757) hx hb dL_refused_700 (by decide) (fun c_700 => absurd c_700 (nI_ge (by omega) (by omega))) (fun c_700 => ?_)
                  refine lv_iload hx hb dL_refused_703 (lv_at hl 1 rfl) ?_
                  refine lv_if_eq (tgt := 748) hx hb dL_refused_705 (by decide) (fun c_705 => absurd c_705 (by decide)) (fun c_705 => ?_)
                  refine lv_aload_n hx hb dL_refused_708 rfl (lv_at hl 5 rfl) ?_
                  refine lv_aload_n hx hb dL_refused_709 rfl (lv_at hl 5 rfl) ?_
                  refine lv_iload hx hb dL_refused_710 (lv_at hl 0 rfl) ?_
                  refine lv_iconst (v := 1) hx hb dL_refused_712 (by decide) ?_
                  refine gcH (As := [.ref (ad 0), .int (nI k), .int 1]) (12 * k + 1882) S G (g_beamOf l cs hF hY hlt ν (nI k) (1)) ckh_beamOf ml_RL_222 hP hS hl.1 ⟨by decide, by decide⟩ rfl (by rfl) (Nat.le_of_ble_eq_true rfl) ⟨by omega, (by show _ ≤ 3400; omega), (by show _ ≤ 6 * 3400; omega)⟩ dL_refused_713 (fun r_153 ν_154 H locs hq_155 hP hS => ?_)
                  obtain ⟨hq_155a, hq_155b⟩ := hq_155; subst r_153; subst ν_154
                  refine lv_tope (y := μ 277 (72 + 4 * k + 1)) (bo_k (j := 1) hν W0 hkn (by decide)) ?_
                  refine lv_aload_n hx hb dL_refused_716 rfl (lv_at hl 5 rfl) ?_
                  refine lv_iload hx hb dL_refused_717 (lv_at hl 0 rfl) ?_
                  refine lv_iconst (v := 0) hx hb dL_refused_719 (by decide) ?_
                  refine gcH (As := [.ref (ad 0), .int (nI k), .int 0]) (12 * k + 1884) S G (g_beamOf l cs hF hY hlt ν (nI k) (0)) ckh_beamOf ml_RL_222 hP hS hl.1 ⟨by decide, by decide⟩ rfl (by rfl) (Nat.le_of_ble_eq_true rfl) ⟨by omega, (by show _ ≤ 3400; omega), (by show _ ≤ 6 * 3400; omega)⟩ dL_refused_720 (fun r_156 ν_157 H locs hq_158 hP hS => ?_)
                  obtain ⟨hq_158a, hq_158b⟩ := hq_158; subst r_156; subst ν_157
                  refine lv_tope (y := μ 277 (72 + 4 * k + 0)) (bo_k (j := 0) hν W0 hkn (by decide)) ?_
                  refine lv_iconst (v := 3) hx hb dL_refused_723 (by decide) ?_
                  refine gcH (As := [.ref (ad 0), .int (μ 277 (72 + 4 * k + 1)), .int (μ 277 (72 + 4 * k + 0)), .int 3]) (12 * k + 1886) S G (g_beam l cs hF hY hlt ν (μ 277 (72 + 4 * k + 1)) (μ 277 (72 + 4 * k + 0)) (3)) ckh_beam ml_RL_174 hP hS hl.1 ⟨by decide, by decide⟩ rfl (by rfl) (Nat.le_of_ble_eq_true rfl) ⟨by omega, (by show _ ≤ 3400; omega), (by show _ ≤ 6 * 3400; omega)⟩ dL_refused_724 (fun r_159 ν_160 H locs hq_161 hP hS => ?_)
                  obtain ⟨hq_161a, hq_161b⟩ := hq_161
                  obtain ⟨er724, hR724, hK724⟩ := rf_ch (w := 9) (d := (nI k)) hν (t_bb W0 hkn) (by decide) hq_161a hq_161b
                  refine lv_tope (y := (-1001)) er724 ?_
                  refine lv_sipush (v := (-1001)) hx hb dL_refused_727 (by decide) ?_
                  refine lv_icmp_ne (tgt := 748) hx hb dL_refused_730 (by decide) (fun c_730 => absurd (by decide) c_730) (fun c_730 => ?_)
                  refine lv_aload_n hx hb dL_refused_733 rfl (lv_at hl 5 rfl) ?_
                  refine lv_bipush (v := 9) hx hb dL_refused_734 (by decide) ?_
                  refine lv_iload hx hb dL_refused_736 (lv_at hl 0 rfl) ?_
                  refine gcS (As := [.ref (ad 0), .int 9, .int (nI k)]) (12 * k + 1890) S G (k_is l cs hF hY hlt ν_160 (9) (nI k) hK724) cks_yL_is ml_RL_270 hP hS hl.1 ⟨by decide, by decide⟩ rfl (by rfl) (Nat.le_of_ble_eq_true rfl) ⟨by omega, (by show _ ≤ 3400; omega), (by show _ ≤ 6 * 3400; omega)⟩ dL_refused_738 (fun r_162 ν_163 H locs hq_164 hP hS => ?_)
                  obtain ⟨hq_164a, hq_164b⟩ := hq_164; subst r_162; subst ν_163
                  refine lv_if_eq (tgt := 748) hx hb dL_refused_741 (by decide) (fun c_741 => absurd c_741 (by decide)) (fun c_741 => ?_)
                  refine lv_iconst (v := 1) hx hb dL_refused_744 (by decide) ?_
                  refine lv_goto (tgt := 749) hx hb dL_refused_745 (by decide) ?_
                  refine lv_istore (lv' := [(5, .int 1), (6, .int (nI k)), (4, .int (nI (gm μ))), (3, .int (nI (gn μ))), (1, .long (asA (μ 277))), (0, .ref (ad 0))]) hx hb dL_refused_749 hl (by decide) rfl (fun ls hl => ?_)
                  refine lv_iinc (v := nI (k + 1)) (lv' := [(6, .int (nI (k + 1))), (5, .int 1), (4, .int (nI (gm μ))), (3, .int (nI (gn μ))), (1, .long (asA (μ 277))), (0, .ref (ad 0))]) hx hb dL_refused_751 hl (k := 1) rfl (nI_inc _) (by decide) rfl (fun ls hl => ?_)
                  refine lv_goto (tgt := 696) hx hb dL_refused_754 (by decide) ?_
                  refine W.widen (k := (12 * (k + 1) + 1880)) (n := 6 * (12 * (k + 1) + 1880)) (by omega) (by omega) ?_
                  exact ih (k + 1) (by omega) _ (by assumption) _ _ _ hP hS (lv_v (lv_sub (l' := [(6, .int (nI (k + 1))), (5, .int 1), (4, .int (nI (gm μ))), (3, .int (nI (gn μ))), (1, .long (asA (μ 277))), (0, .ref (ad 0))]) hl [0, 1, 2, 3, 4, 5] rfl) rfl)
              refine W.widen (k := (12 * 0 + 1880)) (n := 6 * (12 * 0 + 1880)) (by omega) (by omega) ?_
              exact key_696 (gm μ) 0 (by omega) _ (by assumption) _ _ _ hP hS (lv_sub hl [0, 1, 2, 3, 4, 5] rfl)
            | succ d ih =>
              intro k hk ν hν H locs ls hP hS hl
              have hkn : k < (gn μ) := by omega
              refine lv_iload hx hb dL_refused_462 (lv_at hl 0 rfl) ?_
              refine lv_iload_n hx hb dL_refused_464 rfl (lv_at hl 3 rfl) ?_
              refine lv_icmp_ge (tgt := 693) hx hb dL_refused_465 (by decide) (fun c_465 => absurd c_465 (nI_ge (by omega) (by omega))) (fun c_465 => ?_)
              refine lv_iload hx hb dL_refused_468 (lv_at hl 1 rfl) ?_
              refine lv_if_eq (tgt := 511) hx hb dL_refused_470 (by decide) (fun c_470 => absurd c_470 (by decide)) (fun c_470 => ?_)
              refine lv_aload_n hx hb dL_refused_473 rfl (lv_at hl 5 rfl) ?_
              refine lv_iload hx hb dL_refused_474 (lv_at hl 0 rfl) ?_
              refine lv_aload_n hx hb dL_refused_476 rfl (lv_at hl 5 rfl) ?_
              refine lv_iload hx hb dL_refused_477 (lv_at hl 0 rfl) ?_
              refine lv_iconst (v := 1) hx hb dL_refused_479 (by decide) ?_
              refine gcH (As := [.ref (ad 0), .int (nI k), .int 1]) (110 * k + 1212) S G (g_of l cs hF hY hlt ν (nI k) (1)) ckh_of ml_RL_203 hP hS hl.1 ⟨by decide, by decide⟩ rfl (by rfl) (Nat.le_of_ble_eq_true rfl) ⟨by omega, (by show _ ≤ 3400; omega), (by show _ ≤ 6 * 3400; omega)⟩ dL_refused_480 (fun r_165 ν_166 H locs hq_167 hP hS => ?_)
              obtain ⟨hq_167a, hq_167b⟩ := hq_167; subst r_165; subst ν_166
              refine lv_tope (y := μ 277 (6 + 5 * k + 1)) (of_1 hν W0 hkn) ?_
              refine gcH (As := [.ref (ad 0), .int (nI k), .int (μ 277 (6 + 5 * k + 1))]) (110 * k + 1214) S G (g_habit l cs hF hY hlt ν (nI k) (μ 277 (6 + 5 * k + 1))) ckh_habit ml_RL_176 hP hS hl.1 ⟨by decide, by decide⟩ rfl (by rfl) (Nat.le_of_ble_eq_true rfl) ⟨by omega, (by show _ ≤ 3400; omega), (by show _ ≤ 6 * 3400; omega)⟩ dL_refused_483 (fun r_168 ν_169 H locs hq_170 hP hS => ?_)
              obtain ⟨hq_170a, hq_170b⟩ := hq_170
              obtain ⟨er483, hR483, hK483⟩ := rf_ch (w := 5) (d := (μ 277 (6 + 5 * k + 1))) hν (t_hp W0 hkn) (by decide) hq_170a hq_170b
              refine lv_tope (y := (-1001)) er483 ?_
              refine lv_sipush (v := (-1001)) hx hb dL_refused_486 (by decide) ?_
              refine lv_icmp_ne (tgt := 511) hx hb dL_refused_489 (by decide) (fun c_489 => absurd (by decide) c_489) (fun c_489 => ?_)
              refine lv_aload_n hx hb dL_refused_492 rfl (lv_at hl 5 rfl) ?_
              refine lv_iconst (v := 5) hx hb dL_refused_493 (by decide) ?_
              refine lv_aload_n hx hb dL_refused_494 rfl (lv_at hl 5 rfl) ?_
              refine lv_iload hx hb dL_refused_495 (lv_at hl 0 rfl) ?_
              refine lv_iconst (v := 1) hx hb dL_refused_497 (by decide) ?_
              refine gcH (As := [.ref (ad 0), .int (nI k), .int 1]) (110 * k + 1216) S G (g_of l cs hF hY hlt ν_169 (nI k) (1)) ckh_of ml_RL_203 hP hS hl.1 ⟨by decide, by decide⟩ rfl (by rfl) (Nat.le_of_ble_eq_true rfl) ⟨by omega, (by show _ ≤ 3400; omega), (by show _ ≤ 6 * 3400; omega)⟩ dL_refused_498 (fun r_171 ν_172 H locs hq_173 hP hS => ?_)
              obtain ⟨hq_173a, hq_173b⟩ := hq_173; subst r_171; subst ν_172
              refine lv_tope (y := μ 277 (6 + 5 * k + 1)) (of_1 hR483 W0 hkn) ?_
              refine gcS (As := [.ref (ad 0), .int 5, .int (μ 277 (6 + 5 * k + 1))]) (110 * k + 1220) S G (k_is l cs hF hY hlt ν_169 (5) (μ 277 (6 + 5 * k + 1)) hK483) cks_yL_is ml_RL_270 hP hS hl.1 ⟨by decide, by decide⟩ rfl (by rfl) (Nat.le_of_ble_eq_true rfl) ⟨by omega, (by show _ ≤ 3400; omega), (by show _ ≤ 6 * 3400; omega)⟩ dL_refused_501 (fun r_174 ν_175 H locs hq_176 hP hS => ?_)
              obtain ⟨hq_176a, hq_176b⟩ := hq_176; subst r_174; subst ν_175
              refine lv_if_eq (tgt := 511) hx hb dL_refused_504 (by decide) (fun c_504 => absurd c_504 (by decide)) (fun c_504 => ?_)
              refine lv_iconst (v := 1) hx hb dL_refused_507 (by decide) ?_
              refine lv_goto (tgt := 512) hx hb dL_refused_508 (by decide) ?_
              refine lv_istore (lv' := [(5, .int 1), (6, .int (nI k)), (4, .int (nI (gm μ))), (3, .int (nI (gn μ))), (1, .long (asA (μ 277))), (0, .ref (ad 0))]) hx hb dL_refused_512 hl (by decide) rfl (fun ls hl => ?_)
              have jn_514_10 : ∀ (ν5 : Mem) (hJ_514 : RF μ ν5) (H : Heap) (locs : List Loc) (ls : Array Slot), wG D ct ek ad X ν5 H → va_S (fr N0) s.heap H locs → lv_has ls 8 [(5, .int 1), (6, .int (nI k)), (4, .int (nI (gm μ))), (3, .int (nI (gn μ))), (1, .long (asA (μ 277))), (0, .ref (ad 0))] → W p l e (rmd 10 3400 (6 * 3400)) s m args below meth c H locs (110 * k + 1235) (6 * (110 * k + 1235)) (MQ below (gQi D ct ek ad N0 X (fun r ν => r = 1 ∧ CoE ν μ)) args s 3400 (6 * 3400) (fr N0)) (F0 m 615 ls []) := by
                intro ν5 hJ_514 H locs ls hP hS hl
                refine lv_iconst (v := 0) hx hb dL_refused_615 (by decide) ?_
                refine lv_istore (lv' := [(7, .int 0), (5, .int 1), (6, .int (nI k)), (4, .int (nI (gm μ))), (3, .int (nI (gn μ))), (1, .long (asA (μ 277))), (0, .ref (ad 0))]) hx hb dL_refused_616 hl (by decide) rfl (fun ls hl => ?_)
                have key_618 : ∀ (d2 t : Nat), t + d2 = (gn μ) → ∀ (ν2 : Mem), (RF μ ν2) → ∀ (H : Heap) (locs : List Loc) (ls : Array Slot), wG D ct ek ad X ν2 H → va_S (fr N0) s.heap H locs → lv_has ls 8 [(7, .int (nI t)), (5, .int 1), (6, .int (nI k)), (4, .int (nI (gm μ))), (3, .int (nI (gn μ))), (1, .long (asA (μ 277))), (0, .ref (ad 0))] → W p l e (rmd 10 3400 (6 * 3400)) s m args below meth c H locs ((110 * k + 12 * t) + 1236) (6 * ((110 * k + 12 * t) + 1236)) (MQ below (gQi D ct ek ad N0 X (fun r ν => r = 1 ∧ CoE ν μ)) args s 3400 (6 * 3400) (fr N0)) (F0 m 618 ls []) := by
                  intro d2
                  induction d2 with
                  | zero =>
                    intro k9 hk
                    obtain rfl : (gn μ) = k9 := by omega
                    intro ν2 hν2 H locs ls hP hS hl
                    refine lv_iload hx hb dL_refused_618 (lv_at hl 0 rfl) ?_
                    refine lv_iload_n hx hb dL_refused_620 rfl (lv_at hl 4 rfl) ?_
                    refine lv_icmp_ge (tgt := 687) hx hb dL_refused_621 (by decide) (fun c_621 => ?_) (fun c_621 => absurd (nI_le (by omega) (by omega)) c_621)
                    refine lv_iinc (v := nI (k + 1)) (lv' := [(6, .int (nI (k + 1))), (7, .int (nI (gn μ))), (5, .int 1), (4, .int (nI (gm μ))), (3, .int (nI (gn μ))), (1, .long (asA (μ 277))), (0, .ref (ad 0))]) hx hb dL_refused_687 hl (k := 2) rfl (nI_inc _) (by decide) rfl (fun ls hl => ?_)
                    refine lv_goto (tgt := 462) hx hb dL_refused_690 (by decide) ?_
                    refine W.widen (k := (110 * (k + 1) + 1210)) (n := 6 * (110 * (k + 1) + 1210)) (by omega) (by omega) ?_
                    exact ih (k + 1) (by omega) _ (by assumption) _ _ _ hP hS (lv_v (lv_sub (l' := [(6, .int (nI (k + 1))), (5, .int 1), (4, .int (nI (gm μ))), (3, .int (nI (gn μ))), (1, .long (asA (μ 277))), (0, .ref (ad 0))]) hl [0, 2, 3, 4, 5, 6] rfl) rfl)
                  | succ d2 ih =>
                    intro t hk ν2 hν2 H locs ls hP hS hl
                    have htn : t < (gn μ) := by omega
                    refine lv_iload hx hb dL_refused_618 (lv_at hl 0 rfl) ?_
                    refine lv_iload_n hx hb dL_refused_620 rfl (lv_at hl 4 rfl) ?_
                    refine lv_icmp_ge (tgt := 687) hx hb dL_refused_621 (by decide) (fun c_621 => absurd c_621 (nI_ge (by omega) (by omega))) (fun c_621 => ?_)
                    refine lv_iload hx hb dL_refused_624 (lv_at hl 0 rfl) ?_
                    refine lv_iload hx hb dL_refused_626 (lv_at hl 2 rfl) ?_
                    refine lv_icmp_eq (tgt := 681) hx hb dL_refused_628 (by decide) (fun c_628 => ?_) (fun c_628 => ?_)
                    · refine lv_iinc (v := nI (t + 1)) (lv' := [(7, .int (nI (t + 1))), (5, .int 1), (6, .int (nI k)), (4, .int (nI (gm μ))), (3, .int (nI (gn μ))), (1, .long (asA (μ 277))), (0, .ref (ad 0))]) hx hb dL_refused_681 hl (k := 0) rfl (nI_inc _) (by decide) rfl (fun ls hl => ?_)
                      refine lv_goto (tgt := 618) hx hb dL_refused_684 (by decide) ?_
                      refine W.widen (k := ((110 * k + 12 * (t + 1)) + 1236)) (n := 6 * ((110 * k + 12 * (t + 1)) + 1236)) (by omega) (by omega) ?_
                      exact ih (t + 1) (by omega) _ (by assumption) _ _ _ hP hS (lv_v (lv_sub (l' := [(7, .int (nI (t + 1))), (5, .int 1), (6, .int (nI k)), (4, .int (nI (gm μ))), (3, .int (nI (gn μ))), (1, .long (asA (μ 277))), (0, .ref (ad 0))]) hl [0, 1, 2, 3, 4, 5, 6] rfl) rfl)
                    · refine lv_iload hx hb dL_refused_631 (lv_at hl 1 rfl) ?_
                      refine lv_if_eq (tgt := 678) hx hb dL_refused_633 (by decide) (fun c_633 => absurd c_633 (by decide)) (fun c_633 => ?_)
                      refine lv_aload_n hx hb dL_refused_636 rfl (lv_at hl 6 rfl) ?_
                      refine lv_iload hx hb dL_refused_637 (lv_at hl 2 rfl) ?_
                      refine lv_iload hx hb dL_refused_639 (lv_at hl 0 rfl) ?_
                      refine lv_aload_n hx hb dL_refused_641 rfl (lv_at hl 6 rfl) ?_
                      refine lv_iload hx hb dL_refused_642 (lv_at hl 2 rfl) ?_
                      refine lv_iload hx hb dL_refused_644 (lv_at hl 0 rfl) ?_
                      refine gcH (As := [.ref (ad 0), .int (nI k), .int (nI t)]) ((110 * k + 12 * t) + 1238) S G (g_weight l cs hF hY hlt ν2 (nI k) (nI t)) ckh_weight ml_RL_206 hP hS hl.1 ⟨by decide, by decide⟩ rfl (by rfl) (Nat.le_of_ble_eq_true rfl) ⟨by omega, (by show _ ≤ 3400; omega), (by show _ ≤ 6 * 3400; omega)⟩ dL_refused_646 (fun r_177 ν_178 H locs hq_179 hP hS => ?_)
                      obtain ⟨hq_179a, hq_179b⟩ := hq_179; subst r_177; subst ν_178
                      refine lv_tope (y := μ 277 (36 + 6 * k + t)) (wg_q hν2 W0 hkn htn) ?_
                      refine gcH (As := [.ref (ad 0), .int (nI k), .int (nI t), .int (μ 277 (36 + 6 * k + t))]) ((110 * k + 12 * t) + 1240) S G (g_friends l cs hF hY hlt ν2 (nI k) (nI t) (μ 277 (36 + 6 * k + t))) ckh_friends ml_RL_171 hP hS hl.1 ⟨by decide, by decide⟩ rfl (by rfl) (Nat.le_of_ble_eq_true rfl) ⟨by omega, (by show _ ≤ 3400; omega), (by show _ ≤ 6 * 3400; omega)⟩ dL_refused_649 (fun r_180 ν_181 H locs hq_182 hP hS => ?_)
                      obtain ⟨hq_182a, hq_182b⟩ := hq_182
                      obtain ⟨er649, hR649, hK649⟩ := rf_ch (w := 5) (d := (μ 277 (36 + 6 * k + t))) hν2 (t_fq W0 hkn htn c_628) (by decide) hq_182a hq_182b
                      refine lv_tope (y := (-1001)) er649 ?_
                      refine lv_sipush (v := (-1001)) hx hb dL_refused_652 (by decide) ?_
                      refine lv_icmp_ne (tgt := 678) hx hb dL_refused_655 (by decide) (fun c_655 => absurd (by decide) c_655) (fun c_655 => ?_)
                      refine lv_aload_n hx hb dL_refused_658 rfl (lv_at hl 6 rfl) ?_
                      refine lv_iconst (v := 5) hx hb dL_refused_659 (by decide) ?_
                      refine lv_aload_n hx hb dL_refused_660 rfl (lv_at hl 6 rfl) ?_
                      refine lv_iload hx hb dL_refused_661 (lv_at hl 2 rfl) ?_
                      refine lv_iload hx hb dL_refused_663 (lv_at hl 0 rfl) ?_
                      refine gcH (As := [.ref (ad 0), .int (nI k), .int (nI t)]) ((110 * k + 12 * t) + 1242) S G (g_weight l cs hF hY hlt ν_181 (nI k) (nI t)) ckh_weight ml_RL_206 hP hS hl.1 ⟨by decide, by decide⟩ rfl (by rfl) (Nat.le_of_ble_eq_true rfl) ⟨by omega, (by show _ ≤ 3400; omega), (by show _ ≤ 6 * 3400; omega)⟩ dL_refused_665 (fun r_183 ν_184 H locs hq_185 hP hS => ?_)
                      obtain ⟨hq_185a, hq_185b⟩ := hq_185; subst r_183; subst ν_184
                      refine lv_tope (y := μ 277 (36 + 6 * k + t)) (wg_q hR649 W0 hkn htn) ?_
                      refine gcS (As := [.ref (ad 0), .int 5, .int (μ 277 (36 + 6 * k + t))]) ((110 * k + 12 * t) + 1246) S G (k_is l cs hF hY hlt ν_181 (5) (μ 277 (36 + 6 * k + t)) hK649) cks_yL_is ml_RL_270 hP hS hl.1 ⟨by decide, by decide⟩ rfl (by rfl) (Nat.le_of_ble_eq_true rfl) ⟨by omega, (by show _ ≤ 3400; omega), (by show _ ≤ 6 * 3400; omega)⟩ dL_refused_668 (fun r_186 ν_187 H locs hq_188 hP hS => ?_)
                      obtain ⟨hq_188a, hq_188b⟩ := hq_188; subst r_186; subst ν_187
                      refine lv_if_eq (tgt := 678) hx hb dL_refused_671 (by decide) (fun c_671 => absurd c_671 (by decide)) (fun c_671 => ?_)
                      refine lv_iconst (v := 1) hx hb dL_refused_674 (by decide) ?_
                      refine lv_goto (tgt := 679) hx hb dL_refused_675 (by decide) ?_
                      refine lv_istore (lv' := [(5, .int 1), (7, .int (nI t)), (6, .int (nI k)), (4, .int (nI (gm μ))), (3, .int (nI (gn μ))), (1, .long (asA (μ 277))), (0, .ref (ad 0))]) hx hb dL_refused_679 hl (by decide) rfl (fun ls hl => ?_)
                      refine lv_iinc (v := nI (t + 1)) (lv' := [(7, .int (nI (t + 1))), (5, .int 1), (6, .int (nI k)), (4, .int (nI (gm μ))), (3, .int (nI (gn μ))), (1, .long (asA (μ 277))), (0, .ref (ad 0))]) hx hb dL_refused_681 hl (k := 1) rfl (nI_inc _) (by decide) rfl (fun ls hl => ?_)
                      refine lv_goto (tgt := 618) hx hb dL_refused_684 (by decide) ?_
                      refine W.widen (k := ((110 * k + 12 * (t + 1)) + 1236)) (n := 6 * ((110 * k + 12 * (t + 1)) + 1236)) (by omega) (by omega) ?_
                      exact ih (t + 1) (by omega) _ (by assumption) _ _ _ hP hS (lv_v (lv_sub (l' := [(7, .int (nI (t + 1))), (5, .int 1), (6, .int (nI k)), (4, .int (nI (gm μ))), (3, .int (nI (gn μ))), (1, .long (asA (μ 277))), (0, .ref (ad 0))]) hl [0, 1, 2, 3, 4, 5, 6] rfl) rfl)
                refine W.widen (k := ((110 * k + 12 * 0) + 1236)) (n := 6 * ((110 * k + 12 * 0) + 1236)) (by omega) (by omega) ?_
                exact key_618 (gn μ) 0 (by omega) _ (by assumption) _ _ _ hP hS (lv_sub hl [0, 1, 2, 3, 4, 5, 6] rfl)
              refine lv_aload_n hx hb dL_refused_514 rfl (lv_at hl 5 rfl) ?_
              refine lv_iload hx hb dL_refused_515 (lv_at hl 1 rfl) ?_
              refine lv_iconst (v := 0) hx hb dL_refused_517 (by decide) ?_
              refine gcH (As := [.ref (ad 0), .int (nI k), .int 0]) (110 * k + 1222) S G (g_of l cs hF hY hlt ν_169 (nI k) (0)) ckh_of ml_RL_203 hP hS hl.1 ⟨by decide, by decide⟩ rfl (by rfl) (Nat.le_of_ble_eq_true rfl) ⟨by omega, (by show _ ≤ 3400; omega), (by show _ ≤ 6 * 3400; omega)⟩ dL_refused_518 (fun r_189 ν_190 H locs hq_191 hP hS => ?_)
              obtain ⟨hq_191a, hq_191b⟩ := hq_191; subst r_189; subst ν_190
              refine lv_tope (y := μ 277 (6 + 5 * k + 0)) (of_0 hR483 W0 hkn) ?_
              refine lv_if_ne (tgt := 569) hx hb dL_refused_521 (by decide) (fun c_521 => ?_) (fun c_521 => ?_)
              · refine lv_aload_n hx hb dL_refused_569 rfl (lv_at hl 5 rfl) ?_
                refine lv_iload hx hb dL_refused_570 (lv_at hl 1 rfl) ?_
                refine lv_iconst (v := 1) hx hb dL_refused_572 (by decide) ?_
                refine gcH (As := [.ref (ad 0), .int (nI k), .int 1]) (110 * k + 1224) S G (g_of l cs hF hY hlt ν_169 (nI k) (1)) ckh_of ml_RL_203 hP hS hl.1 ⟨by decide, by decide⟩ rfl (by rfl) (Nat.le_of_ble_eq_true rfl) ⟨by omega, (by show _ ≤ 3400; omega), (by show _ ≤ 6 * 3400; omega)⟩ dL_refused_573 (fun r_192 ν_193 H locs hq_194 hP hS => ?_)
                obtain ⟨hq_194a, hq_194b⟩ := hq_194; subst r_192; subst ν_193
                refine lv_tope (y := μ 277 (6 + 5 * k + 1)) (of_1 hR483 W0 hkn) ?_
                refine lv_iconst (v := 2) hx hb dL_refused_576 (by decide) ?_
                refine lv_icmp_le (tgt := 615) hx hb dL_refused_577 (by decide) (fun c_577 => ?_) (fun c_577 => ?_)
                · refine W.widen (k := (110 * k + 1235)) (n := 6 * (110 * k + 1235)) (by omega) (by omega) ?_
                  exact jn_514_10 _ hR483 _ _ _ hP hS (lv_sub hl [0, 1, 2, 3, 4, 5] rfl)
                · refine lv_iload hx hb dL_refused_580 (lv_at hl 0 rfl) ?_
                  refine lv_if_eq (tgt := 612) hx hb dL_refused_582 (by decide) (fun c_582 => absurd c_582 (by decide)) (fun c_582 => ?_)
                  refine lv_aload_n hx hb dL_refused_585 rfl (lv_at hl 5 rfl) ?_
                  refine lv_iload hx hb dL_refused_586 (lv_at hl 1 rfl) ?_
                  refine lv_iconst (v := 1) hx hb dL_refused_588 (by decide) ?_
                  refine gcH (As := [.ref (ad 0), .int (nI k), .int 1]) (110 * k + 1226) S G (g_fact l cs hF hY hlt ν_169 (nI k) (1)) ckh_fact ml_RL_239 hP hS hl.1 ⟨by decide, by decide⟩ rfl (by rfl) (Nat.le_of_ble_eq_true rfl) ⟨by omega, (by show _ ≤ 3400; omega), (by show _ ≤ 6 * 3400; omega)⟩ dL_refused_589 (fun r_195 ν_196 H locs hq_197 hP hS => ?_)
                  obtain ⟨hq_197a, hq_197b⟩ := hq_197
                  obtain ⟨er589, hR589, hK589⟩ := rf_ch (w := 7) (d := 1) hR483 (t_t7 W0 hkn c_521 c_577) (by decide) hq_197a hq_197b
                  refine lv_tope (y := (-1001)) er589 ?_
                  refine lv_sipush (v := (-1001)) hx hb dL_refused_592 (by decide) ?_
                  refine lv_icmp_ne (tgt := 612) hx hb dL_refused_595 (by decide) (fun c_595 => absurd (by decide) c_595) (fun c_595 => ?_)
                  refine lv_aload_n hx hb dL_refused_598 rfl (lv_at hl 5 rfl) ?_
                  refine lv_bipush (v := 7) hx hb dL_refused_599 (by decide) ?_
                  refine lv_iconst (v := 1) hx hb dL_refused_601 (by decide) ?_
                  refine gcS (As := [.ref (ad 0), .int 7, .int 1]) (110 * k + 1230) S G (k_is l cs hF hY hlt ν_196 (7) (1) hK589) cks_yL_is ml_RL_270 hP hS hl.1 ⟨by decide, by decide⟩ rfl (by rfl) (Nat.le_of_ble_eq_true rfl) ⟨by omega, (by show _ ≤ 3400; omega), (by show _ ≤ 6 * 3400; omega)⟩ dL_refused_602 (fun r_198 ν_199 H locs hq_200 hP hS => ?_)
                  obtain ⟨hq_200a, hq_200b⟩ := hq_200; subst r_198; subst ν_199
                  refine lv_if_eq (tgt := 612) hx hb dL_refused_605 (by decide) (fun c_605 => absurd c_605 (by decide)) (fun c_605 => ?_)
                  refine lv_iconst (v := 1) hx hb dL_refused_608 (by decide) ?_
                  refine lv_goto (tgt := 613) hx hb dL_refused_609 (by decide) ?_
                  refine lv_istore (lv' := [(5, .int 1), (6, .int (nI k)), (4, .int (nI (gm μ))), (3, .int (nI (gn μ))), (1, .long (asA (μ 277))), (0, .ref (ad 0))]) hx hb dL_refused_613 hl (by decide) rfl (fun ls hl => ?_)
                  refine W.widen (k := (110 * k + 1235)) (n := 6 * (110 * k + 1235)) (by omega) (by omega) ?_
                  exact jn_514_10 _ hR589 _ _ _ hP hS (lv_sub hl [0, 1, 2, 3, 4, 5] rfl)
              · refine lv_iload hx hb dL_refused_524 (lv_at hl 0 rfl) ?_
                refine lv_if_eq (tgt := 563) hx hb dL_refused_526 (by decide) (fun c_526 => absurd c_526 (by decide)) (fun c_526 => ?_)
                refine lv_aload_n hx hb dL_refused_529 rfl (lv_at hl 5 rfl) ?_
                refine lv_iload hx hb dL_refused_530 (lv_at hl 1 rfl) ?_
                refine lv_bipush (v := 9) hx hb dL_refused_532 (by decide) ?_
                refine gcH (As := [.ref (ad 0), .int (nI k), .int 9]) (110 * k + 1224) S G (g_fact l cs hF hY hlt ν_169 (nI k) (9)) ckh_fact ml_RL_239 hP hS hl.1 ⟨by decide, by decide⟩ rfl (by rfl) (Nat.le_of_ble_eq_true rfl) ⟨by omega, (by show _ ≤ 3400; omega), (by show _ ≤ 6 * 3400; omega)⟩ dL_refused_534 (fun r_201 ν_202 H locs hq_203 hP hS => ?_)
                obtain ⟨hq_203a, hq_203b⟩ := hq_203
                obtain ⟨er534, hR534, hK534⟩ := rf_ch (w := 6) (d := (μ 277 (6 + 5 * k + 1))) hR483 (t_t6 W0 hkn c_521) (by decide) hq_203a hq_203b
                refine lv_tope (y := (-1001)) er534 ?_
                refine lv_sipush (v := (-1001)) hx hb dL_refused_537 (by decide) ?_
                refine lv_icmp_ne (tgt := 563) hx hb dL_refused_540 (by decide) (fun c_540 => absurd (by decide) c_540) (fun c_540 => ?_)
                refine lv_aload_n hx hb dL_refused_543 rfl (lv_at hl 5 rfl) ?_
                refine lv_bipush (v := 6) hx hb dL_refused_544 (by decide) ?_
                refine lv_aload_n hx hb dL_refused_546 rfl (lv_at hl 5 rfl) ?_
                refine lv_iload hx hb dL_refused_547 (lv_at hl 1 rfl) ?_
                refine lv_iconst (v := 1) hx hb dL_refused_549 (by decide) ?_
                refine gcH (As := [.ref (ad 0), .int (nI k), .int 1]) (110 * k + 1226) S G (g_of l cs hF hY hlt ν_202 (nI k) (1)) ckh_of ml_RL_203 hP hS hl.1 ⟨by decide, by decide⟩ rfl (by rfl) (Nat.le_of_ble_eq_true rfl) ⟨by omega, (by show _ ≤ 3400; omega), (by show _ ≤ 6 * 3400; omega)⟩ dL_refused_550 (fun r_204 ν_205 H locs hq_206 hP hS => ?_)
                obtain ⟨hq_206a, hq_206b⟩ := hq_206; subst r_204; subst ν_205
                refine lv_tope (y := μ 277 (6 + 5 * k + 1)) (of_1 hR534 W0 hkn) ?_
                refine gcS (As := [.ref (ad 0), .int 6, .int (μ 277 (6 + 5 * k + 1))]) (110 * k + 1230) S G (k_is l cs hF hY hlt ν_202 (6) (μ 277 (6 + 5 * k + 1)) hK534) cks_yL_is ml_RL_270 hP hS hl.1 ⟨by decide, by decide⟩ rfl (by rfl) (Nat.le_of_ble_eq_true rfl) ⟨by omega, (by show _ ≤ 3400; omega), (by show _ ≤ 6 * 3400; omega)⟩ dL_refused_553 (fun r_207 ν_208 H locs hq_209 hP hS => ?_)
                obtain ⟨hq_209a, hq_209b⟩ := hq_209; subst r_207; subst ν_208
                refine lv_if_eq (tgt := 563) hx hb dL_refused_556 (by decide) (fun c_556 => absurd c_556 (by decide)) (fun c_556 => ?_)
                refine lv_iconst (v := 1) hx hb dL_refused_559 (by decide) ?_
                refine lv_goto (tgt := 564) hx hb dL_refused_560 (by decide) ?_
                refine lv_istore (lv' := [(5, .int 1), (6, .int (nI k)), (4, .int (nI (gm μ))), (3, .int (nI (gn μ))), (1, .long (asA (μ 277))), (0, .ref (ad 0))]) hx hb dL_refused_564 hl (by decide) rfl (fun ls hl => ?_)
                refine lv_goto (tgt := 615) hx hb dL_refused_566 (by decide) ?_
                refine W.widen (k := (110 * k + 1235)) (n := 6 * (110 * k + 1235)) (by omega) (by omega) ?_
                exact jn_514_10 _ hR534 _ _ _ hP hS (lv_sub hl [0, 1, 2, 3, 4, 5] rfl)
          refine W.widen (k := (110 * 0 + 1210)) (n := 6 * (110 * 0 + 1210)) (by omega) (by omega) ?_
          exact key_462 (gn μ) 0 (by omega) _ (by assumption) _ _ _ hP hS (lv_sub hl [0, 1, 2, 3, 4, 5] rfl)
        refine lv_aload_n hx hb dL_refused_349 rfl (lv_at hl 3 rfl) ?_
        refine lv_iconst (v := 0) hx hb dL_refused_350 (by decide) ?_
        refine lv_iconst (v := 1) hx hb dL_refused_351 (by decide) ?_
        refine lv_iconst (v := (-1)) hx hb dL_refused_352 (by decide) ?_
        refine gcH (As := [.ref (ad 0), .int 0, .int 1, .int (-1)]) 1132 S G (g_beam l cs hF hY hlt ν3 (0) (1) (-1)) ckh_beam ml_RL_174 hP hS hl.1 ⟨by decide, by decide⟩ rfl (by rfl) (Nat.le_of_ble_eq_true rfl) ⟨by omega, (by show _ ≤ 3400; omega), (by show _ ≤ 6 * 3400; omega)⟩ dL_refused_353 (fun r_210 ν_211 H locs hq_212 hP hS => ?_)
        obtain ⟨hq_212a, hq_212b⟩ := hq_212
        obtain ⟨er353, hR353, hK353⟩ := rf_ch (w := 1) (d := 0) hJ_203 (t_b5 W0.1.1 h2 hn6) (by decide) hq_212a hq_212b
        refine lv_tope (y := (-1001)) er353 ?_
        refine lv_sipush (v := (-1001)) hx hb dL_refused_356 (by decide) ?_
        refine lv_icmp_ne (tgt := 456) hx hb dL_refused_359 (by decide) (fun c_359 => absurd (by decide) c_359) (fun c_359 => ?_)
        refine lv_aload_n hx hb dL_refused_362 rfl (lv_at hl 3 rfl) ?_
        refine lv_iload hx hb dL_refused_363 (lv_at hl 0 rfl) ?_
        refine gcH (As := [.ref (ad 0), .int (nI (gm μ))]) 1134 S G (g_remove l cs hF hY hlt ν_211 (nI (gm μ))) ckh_remove ml_RL_241 hP hS hl.1 ⟨by decide, by decide⟩ rfl (by rfl) (Nat.le_of_ble_eq_true rfl) ⟨by omega, (by show _ ≤ 3400; omega), (by show _ ≤ 6 * 3400; omega)⟩ dL_refused_365 (fun r_213 ν_214 H locs hq_215 hP hS => ?_)
        obtain ⟨hq_215a, hq_215b⟩ := hq_215
        obtain ⟨er365, hR365, hK365⟩ := rf_ch (w := 8) (d := (nI (gm μ))) hR353 (t_r1 W0.1.2.2.1 hm6) (by decide) hq_215a hq_215b
        refine lv_tope (y := (-1001)) er365 ?_
        refine lv_sipush (v := (-1001)) hx hb dL_refused_368 (by decide) ?_
        refine lv_icmp_ne (tgt := 456) hx hb dL_refused_371 (by decide) (fun c_371 => absurd (by decide) c_371) (fun c_371 => ?_)
        refine lv_aload_n hx hb dL_refused_374 rfl (lv_at hl 3 rfl) ?_
        refine lv_bipush (v := 8) hx hb dL_refused_375 (by decide) ?_
        refine lv_iload hx hb dL_refused_377 (lv_at hl 0 rfl) ?_
        refine gcS (As := [.ref (ad 0), .int 8, .int (nI (gm μ))]) 1138 S G (k_is l cs hF hY hlt ν_214 (8) (nI (gm μ)) hK365) cks_yL_is ml_RL_270 hP hS hl.1 ⟨by decide, by decide⟩ rfl (by rfl) (Nat.le_of_ble_eq_true rfl) ⟨by omega, (by show _ ≤ 3400; omega), (by show _ ≤ 6 * 3400; omega)⟩ dL_refused_379 (fun r_216 ν_217 H locs hq_218 hP hS => ?_)
        obtain ⟨hq_218a, hq_218b⟩ := hq_218; subst r_216; subst ν_217
        refine lv_if_eq (tgt := 456) hx hb dL_refused_382 (by decide) (fun c_382 => absurd c_382 (by decide)) (fun c_382 => ?_)
        refine lv_aload_n hx hb dL_refused_385 rfl (lv_at hl 3 rfl) ?_
        refine lv_iconst (v := (-1)) hx hb dL_refused_386 (by decide) ?_
        refine gcH (As := [.ref (ad 0), .int (-1)]) 1140 S G (g_remove l cs hF hY hlt ν_214 (-1)) ckh_remove ml_RL_241 hP hS hl.1 ⟨by decide, by decide⟩ rfl (by rfl) (Nat.le_of_ble_eq_true rfl) ⟨by omega, (by show _ ≤ 3400; omega), (by show _ ≤ 6 * 3400; omega)⟩ dL_refused_387 (fun r_219 ν_220 H locs hq_221 hP hS => ?_)
        obtain ⟨hq_221a, hq_221b⟩ := hq_221
        obtain ⟨er387, hR387, hK387⟩ := rf_ch (w := 8) (d := (nI (gm μ))) hR365 (t_r2 W0.1.2.2.1) (by decide) hq_221a hq_221b
        refine lv_tope (y := (-1001)) er387 ?_
        refine lv_sipush (v := (-1001)) hx hb dL_refused_390 (by decide) ?_
        refine lv_icmp_ne (tgt := 456) hx hb dL_refused_393 (by decide) (fun c_393 => absurd (by decide) c_393) (fun c_393 => ?_)
        refine lv_aload_n hx hb dL_refused_396 rfl (lv_at hl 3 rfl) ?_
        refine lv_iload_n hx hb dL_refused_397 rfl (lv_at hl 1 rfl) ?_
        refine lv_bipush (v := 99) hx hb dL_refused_398 (by decide) ?_
        refine gcH (As := [.ref (ad 0), .int (nI (gn μ)), .int 99]) 1142 S G (g_habit l cs hF hY hlt ν_220 (nI (gn μ)) (99)) ckh_habit ml_RL_176 hP hS hl.1 ⟨by decide, by decide⟩ rfl (by rfl) (Nat.le_of_ble_eq_true rfl) ⟨by omega, (by show _ ≤ 3400; omega), (by show _ ≤ 6 * 3400; omega)⟩ dL_refused_400 (fun r_222 ν_223 H locs hq_224 hP hS => ?_)
        obtain ⟨hq_224a, hq_224b⟩ := hq_224
        obtain ⟨er400, hR400, hK400⟩ := rf_ch (w := 3) (d := (nI (gn μ))) hR387 (t_h1 W0.1.1 hn6) (by decide) hq_224a hq_224b
        refine lv_tope (y := (-1001)) er400 ?_
        refine lv_sipush (v := (-1001)) hx hb dL_refused_403 (by decide) ?_
        refine lv_icmp_ne (tgt := 456) hx hb dL_refused_406 (by decide) (fun c_406 => absurd (by decide) c_406) (fun c_406 => ?_)
        refine lv_aload_n hx hb dL_refused_409 rfl (lv_at hl 3 rfl) ?_
        refine lv_iconst (v := 3) hx hb dL_refused_410 (by decide) ?_
        refine lv_iload_n hx hb dL_refused_411 rfl (lv_at hl 1 rfl) ?_
        refine gcS (As := [.ref (ad 0), .int 3, .int (nI (gn μ))]) 1146 S G (k_is l cs hF hY hlt ν_223 (3) (nI (gn μ)) hK400) cks_yL_is ml_RL_270 hP hS hl.1 ⟨by decide, by decide⟩ rfl (by rfl) (Nat.le_of_ble_eq_true rfl) ⟨by omega, (by show _ ≤ 3400; omega), (by show _ ≤ 6 * 3400; omega)⟩ dL_refused_412 (fun r_225 ν_226 H locs hq_227 hP hS => ?_)
        obtain ⟨hq_227a, hq_227b⟩ := hq_227; subst r_225; subst ν_226
        refine lv_if_eq (tgt := 456) hx hb dL_refused_415 (by decide) (fun c_415 => absurd c_415 (by decide)) (fun c_415 => ?_)
        refine lv_aload_n hx hb dL_refused_418 rfl (lv_at hl 3 rfl) ?_
        refine lv_iconst (v := 0) hx hb dL_refused_419 (by decide) ?_
        refine lv_bipush (v := 10) hx hb dL_refused_420 (by decide) ?_
        refine gcH (As := [.ref (ad 0), .int 0, .int 10]) 1148 S G (g_habit l cs hF hY hlt ν_223 (0) (10)) ckh_habit ml_RL_176 hP hS hl.1 ⟨by decide, by decide⟩ rfl (by rfl) (Nat.le_of_ble_eq_true rfl) ⟨by omega, (by show _ ≤ 3400; omega), (by show _ ≤ 6 * 3400; omega)⟩ dL_refused_422 (fun r_228 ν_229 H locs hq_230 hP hS => ?_)
        obtain ⟨hq_230a, hq_230b⟩ := hq_230
        obtain ⟨er422, hR422, hK422⟩ := rf_ch (w := 1) (d := 0) hR400 (t_h2 W0.1.1 h2 hn6) (by decide) hq_230a hq_230b
        refine lv_tope (y := (-1001)) er422 ?_
        refine lv_sipush (v := (-1001)) hx hb dL_refused_425 (by decide) ?_
        refine lv_icmp_ne (tgt := 456) hx hb dL_refused_428 (by decide) (fun c_428 => absurd (by decide) c_428) (fun c_428 => ?_)
        refine lv_aload_n hx hb dL_refused_431 rfl (lv_at hl 3 rfl) ?_
        refine lv_iconst (v := 1) hx hb dL_refused_432 (by decide) ?_
        refine lv_iconst (v := 0) hx hb dL_refused_433 (by decide) ?_
        refine gcS (As := [.ref (ad 0), .int 1, .int 0]) 1152 S G (k_is l cs hF hY hlt ν_229 (1) (0) hK422) cks_yL_is ml_RL_270 hP hS hl.1 ⟨by decide, by decide⟩ rfl (by rfl) (Nat.le_of_ble_eq_true rfl) ⟨by omega, (by show _ ≤ 3400; omega), (by show _ ≤ 6 * 3400; omega)⟩ dL_refused_434 (fun r_231 ν_232 H locs hq_233 hP hS => ?_)
        obtain ⟨hq_233a, hq_233b⟩ := hq_233; subst r_231; subst ν_232
        refine lv_if_eq (tgt := 456) hx hb dL_refused_437 (by decide) (fun c_437 => absurd c_437 (by decide)) (fun c_437 => ?_)
        refine lv_aload_n hx hb dL_refused_440 rfl (lv_at hl 3 rfl) ?_
        refine lv_iconst (v := 0) hx hb dL_refused_441 (by decide) ?_
        refine lv_iconst (v := (-1)) hx hb dL_refused_442 (by decide) ?_
        refine gcH (As := [.ref (ad 0), .int 0, .int (-1)]) 1154 S G (g_habit l cs hF hY hlt ν_229 (0) (-1)) ckh_habit ml_RL_176 hP hS hl.1 ⟨by decide, by decide⟩ rfl (by rfl) (Nat.le_of_ble_eq_true rfl) ⟨by omega, (by show _ ≤ 3400; omega), (by show _ ≤ 6 * 3400; omega)⟩ dL_refused_443 (fun r_234 ν_235 H locs hq_236 hP hS => ?_)
        obtain ⟨hq_236a, hq_236b⟩ := hq_236
        obtain ⟨er443, hR443, hK443⟩ := rf_ch (w := 1) (d := 0) hR422 (t_h3 W0.1.1 h2 hn6) (by decide) hq_236a hq_236b
        refine lv_tope (y := (-1001)) er443 ?_
        refine lv_sipush (v := (-1001)) hx hb dL_refused_446 (by decide) ?_
        refine lv_icmp_ne (tgt := 456) hx hb dL_refused_449 (by decide) (fun c_449 => absurd (by decide) c_449) (fun c_449 => ?_)
        refine lv_iconst (v := 1) hx hb dL_refused_452 (by decide) ?_
        refine lv_goto (tgt := 457) hx hb dL_refused_453 (by decide) ?_
        refine lv_istore (lv' := [(5, .int 1), (4, .int (nI (gm μ))), (3, .int (nI (gn μ))), (1, .long (asA (μ 277))), (0, .ref (ad 0))]) hx hb dL_refused_457 hl (by decide) rfl (fun ls hl => ?_)
        refine W.widen (k := 1200) (n := 6 * 1200) (by omega) (by omega) ?_
        exact jn_349_4 _ hR443 _ _ _ hP hS (lv_sub hl [0, 1, 2, 3, 4] rfl)
      refine lv_aload_n hx hb dL_refused_203 rfl (lv_at hl 3 rfl) ?_
      refine lv_iload_n hx hb dL_refused_204 rfl (lv_at hl 1 rfl) ?_
      refine lv_iconst (v := 0) hx hb dL_refused_205 (by decide) ?_
      refine gcH (As := [.ref (ad 0), .int (nI (gn μ)), .int 0]) 1082 S G (g_fact l cs hF hY hlt ν2 (nI (gn μ)) (0)) ckh_fact ml_RL_239 hP hS hl.1 ⟨by decide, by decide⟩ rfl (by rfl) (Nat.le_of_ble_eq_true rfl) ⟨by omega, (by show _ ≤ 3400; omega), (by show _ ≤ 6 * 3400; omega)⟩ dL_refused_206 (fun r_237 ν_238 H locs hq_239 hP hS => ?_)
      obtain ⟨hq_239a, hq_239b⟩ := hq_239
      obtain ⟨er206, hR206, hK206⟩ := rf_ch (w := 3) (d := (nI (gn μ))) hJ_90 (t_t1 W0.1.1 hn6) (by decide) hq_239a hq_239b
      refine lv_tope (y := (-1001)) er206 ?_
      refine lv_sipush (v := (-1001)) hx hb dL_refused_209 (by decide) ?_
      refine lv_icmp_ne (tgt := 456) hx hb dL_refused_212 (by decide) (fun c_212 => absurd (by decide) c_212) (fun c_212 => ?_)
      refine lv_aload_n hx hb dL_refused_215 rfl (lv_at hl 3 rfl) ?_
      refine lv_iconst (v := 3) hx hb dL_refused_216 (by decide) ?_
      refine lv_iload_n hx hb dL_refused_217 rfl (lv_at hl 1 rfl) ?_
      refine gcS (As := [.ref (ad 0), .int 3, .int (nI (gn μ))]) 1086 S G (k_is l cs hF hY hlt ν_238 (3) (nI (gn μ)) hK206) cks_yL_is ml_RL_270 hP hS hl.1 ⟨by decide, by decide⟩ rfl (by rfl) (Nat.le_of_ble_eq_true rfl) ⟨by omega, (by show _ ≤ 3400; omega), (by show _ ≤ 6 * 3400; omega)⟩ dL_refused_218 (fun r_240 ν_241 H locs hq_242 hP hS => ?_)
      obtain ⟨hq_242a, hq_242b⟩ := hq_242; subst r_240; subst ν_241
      refine lv_if_eq (tgt := 456) hx hb dL_refused_221 (by decide) (fun c_221 => absurd c_221 (by decide)) (fun c_221 => ?_)
      refine lv_aload_n hx hb dL_refused_224 rfl (lv_at hl 3 rfl) ?_
      refine lv_iconst (v := 0) hx hb dL_refused_225 (by decide) ?_
      refine lv_iconst (v := 0) hx hb dL_refused_226 (by decide) ?_
      refine gcH (As := [.ref (ad 0), .int 0, .int 0]) 1088 S G (g_fact l cs hF hY hlt ν_238 (0) (0)) ckh_fact ml_RL_239 hP hS hl.1 ⟨by decide, by decide⟩ rfl (by rfl) (Nat.le_of_ble_eq_true rfl) ⟨by omega, (by show _ ≤ 3400; omega), (by show _ ≤ 6 * 3400; omega)⟩ dL_refused_227 (fun r_243 ν_244 H locs hq_245 hP hS => ?_)
      obtain ⟨hq_245a, hq_245b⟩ := hq_245
      obtain ⟨er227, hR227, hK227⟩ := rf_ch (w := 1) (d := 0) hR206 (t_t2 W0.1.1 h2 hn6) (by decide) hq_245a hq_245b
      refine lv_tope (y := (-1001)) er227 ?_
      refine lv_sipush (v := (-1001)) hx hb dL_refused_230 (by decide) ?_
      refine lv_icmp_ne (tgt := 456) hx hb dL_refused_233 (by decide) (fun c_233 => absurd (by decide) c_233) (fun c_233 => ?_)
      refine lv_aload_n hx hb dL_refused_236 rfl (lv_at hl 3 rfl) ?_
      refine lv_iconst (v := 1) hx hb dL_refused_237 (by decide) ?_
      refine lv_iconst (v := 0) hx hb dL_refused_238 (by decide) ?_
      refine gcS (As := [.ref (ad 0), .int 1, .int 0]) 1092 S G (k_is l cs hF hY hlt ν_244 (1) (0) hK227) cks_yL_is ml_RL_270 hP hS hl.1 ⟨by decide, by decide⟩ rfl (by rfl) (Nat.le_of_ble_eq_true rfl) ⟨by omega, (by show _ ≤ 3400; omega), (by show _ ≤ 6 * 3400; omega)⟩ dL_refused_239 (fun r_246 ν_247 H locs hq_248 hP hS => ?_)
      obtain ⟨hq_248a, hq_248b⟩ := hq_248; subst r_246; subst ν_247
      refine lv_if_eq (tgt := 456) hx hb dL_refused_242 (by decide) (fun c_242 => absurd c_242 (by decide)) (fun c_242 => ?_)
      refine lv_aload_n hx hb dL_refused_245 rfl (lv_at hl 3 rfl) ?_
      refine lv_iconst (v := 0) hx hb dL_refused_246 (by decide) ?_
      refine lv_bipush (v := 10) hx hb dL_refused_247 (by decide) ?_
      refine gcH (As := [.ref (ad 0), .int 0, .int 10]) 1094 S G (g_fact l cs hF hY hlt ν_244 (0) (10)) ckh_fact ml_RL_239 hP hS hl.1 ⟨by decide, by decide⟩ rfl (by rfl) (Nat.le_of_ble_eq_true rfl) ⟨by omega, (by show _ ≤ 3400; omega), (by show _ ≤ 6 * 3400; omega)⟩ dL_refused_249 (fun r_249 ν_250 H locs hq_251 hP hS => ?_)
      obtain ⟨hq_251a, hq_251b⟩ := hq_251
      obtain ⟨er249, hR249, hK249⟩ := rf_ch (w := 1) (d := 0) hR227 (t_t3 W0.1.1 h2 hn6) (by decide) hq_251a hq_251b
      refine lv_tope (y := (-1001)) er249 ?_
      refine lv_sipush (v := (-1001)) hx hb dL_refused_252 (by decide) ?_
      refine lv_icmp_ne (tgt := 456) hx hb dL_refused_255 (by decide) (fun c_255 => absurd (by decide) c_255) (fun c_255 => ?_)
      refine lv_aload_n hx hb dL_refused_258 rfl (lv_at hl 3 rfl) ?_
      refine lv_iconst (v := 1) hx hb dL_refused_259 (by decide) ?_
      refine lv_iconst (v := 0) hx hb dL_refused_260 (by decide) ?_
      refine gcS (As := [.ref (ad 0), .int 1, .int 0]) 1098 S G (k_is l cs hF hY hlt ν_250 (1) (0) hK249) cks_yL_is ml_RL_270 hP hS hl.1 ⟨by decide, by decide⟩ rfl (by rfl) (Nat.le_of_ble_eq_true rfl) ⟨by omega, (by show _ ≤ 3400; omega), (by show _ ≤ 6 * 3400; omega)⟩ dL_refused_261 (fun r_252 ν_253 H locs hq_254 hP hS => ?_)
      obtain ⟨hq_254a, hq_254b⟩ := hq_254; subst r_252; subst ν_253
      refine lv_if_eq (tgt := 456) hx hb dL_refused_264 (by decide) (fun c_264 => absurd c_264 (by decide)) (fun c_264 => ?_)
      refine lv_aload_n hx hb dL_refused_267 rfl (lv_at hl 3 rfl) ?_
      refine lv_iload_n hx hb dL_refused_268 rfl (lv_at hl 1 rfl) ?_
      refine lv_iconst (v := 0) hx hb dL_refused_269 (by decide) ?_
      refine lv_bipush (v := 99) hx hb dL_refused_270 (by decide) ?_
      refine gcH (As := [.ref (ad 0), .int (nI (gn μ)), .int 0, .int 99]) 1100 S G (g_beam l cs hF hY hlt ν_250 (nI (gn μ)) (0) (99)) ckh_beam ml_RL_174 hP hS hl.1 ⟨by decide, by decide⟩ rfl (by rfl) (Nat.le_of_ble_eq_true rfl) ⟨by omega, (by show _ ≤ 3400; omega), (by show _ ≤ 6 * 3400; omega)⟩ dL_refused_272 (fun r_255 ν_256 H locs hq_257 hP hS => ?_)
      obtain ⟨hq_257a, hq_257b⟩ := hq_257
      obtain ⟨er272, hR272, hK272⟩ := rf_ch (w := 3) (d := (nI (gn μ))) hR249 (t_b1 W0.1.1 hn6) (by decide) hq_257a hq_257b
      refine lv_tope (y := (-1001)) er272 ?_
      refine lv_sipush (v := (-1001)) hx hb dL_refused_275 (by decide) ?_
      refine lv_icmp_ne (tgt := 456) hx hb dL_refused_278 (by decide) (fun c_278 => absurd (by decide) c_278) (fun c_278 => ?_)
      refine lv_aload_n hx hb dL_refused_281 rfl (lv_at hl 3 rfl) ?_
      refine lv_iconst (v := 3) hx hb dL_refused_282 (by decide) ?_
      refine lv_iload_n hx hb dL_refused_283 rfl (lv_at hl 1 rfl) ?_
      refine gcS (As := [.ref (ad 0), .int 3, .int (nI (gn μ))]) 1104 S G (k_is l cs hF hY hlt ν_256 (3) (nI (gn μ)) hK272) cks_yL_is ml_RL_270 hP hS hl.1 ⟨by decide, by decide⟩ rfl (by rfl) (Nat.le_of_ble_eq_true rfl) ⟨by omega, (by show _ ≤ 3400; omega), (by show _ ≤ 6 * 3400; omega)⟩ dL_refused_284 (fun r_258 ν_259 H locs hq_260 hP hS => ?_)
      obtain ⟨hq_260a, hq_260b⟩ := hq_260; subst r_258; subst ν_259
      refine lv_if_eq (tgt := 456) hx hb dL_refused_287 (by decide) (fun c_287 => absurd c_287 (by decide)) (fun c_287 => ?_)
      refine lv_aload_n hx hb dL_refused_290 rfl (lv_at hl 3 rfl) ?_
      refine lv_iconst (v := 0) hx hb dL_refused_291 (by decide) ?_
      refine lv_iload_n hx hb dL_refused_292 rfl (lv_at hl 1 rfl) ?_
      refine lv_iconst (v := 0) hx hb dL_refused_293 (by decide) ?_
      refine gcH (As := [.ref (ad 0), .int 0, .int (nI (gn μ)), .int 0]) 1106 S G (g_beam l cs hF hY hlt ν_256 (0) (nI (gn μ)) (0)) ckh_beam ml_RL_174 hP hS hl.1 ⟨by decide, by decide⟩ rfl (by rfl) (Nat.le_of_ble_eq_true rfl) ⟨by omega, (by show _ ≤ 3400; omega), (by show _ ≤ 6 * 3400; omega)⟩ dL_refused_294 (fun r_261 ν_262 H locs hq_263 hP hS => ?_)
      obtain ⟨hq_263a, hq_263b⟩ := hq_263
      obtain ⟨er294, hR294, hK294⟩ := rf_ch (w := 3) (d := (nI (gn μ))) hR272 (t_b2 W0.1.1 h2 hn6) (by decide) hq_263a hq_263b
      refine lv_tope (y := (-1001)) er294 ?_
      refine lv_sipush (v := (-1001)) hx hb dL_refused_297 (by decide) ?_
      refine lv_icmp_ne (tgt := 456) hx hb dL_refused_300 (by decide) (fun c_300 => absurd (by decide) c_300) (fun c_300 => ?_)
      refine lv_aload_n hx hb dL_refused_303 rfl (lv_at hl 3 rfl) ?_
      refine lv_iconst (v := 1) hx hb dL_refused_304 (by decide) ?_
      refine lv_iconst (v := 1) hx hb dL_refused_305 (by decide) ?_
      refine lv_bipush (v := 99) hx hb dL_refused_306 (by decide) ?_
      refine gcH (As := [.ref (ad 0), .int 1, .int 1, .int 99]) 1108 S G (g_beam l cs hF hY hlt ν_262 (1) (1) (99)) ckh_beam ml_RL_174 hP hS hl.1 ⟨by decide, by decide⟩ rfl (by rfl) (Nat.le_of_ble_eq_true rfl) ⟨by omega, (by show _ ≤ 3400; omega), (by show _ ≤ 6 * 3400; omega)⟩ dL_refused_308 (fun r_264 ν_265 H locs hq_266 hP hS => ?_)
      obtain ⟨hq_266a, hq_266b⟩ := hq_266
      obtain ⟨er308, hR308, hK308⟩ := rf_ch (w := 4) (d := 1) hR294 (t_b3 W0.1.1 h2 hn6) (by decide) hq_266a hq_266b
      refine lv_tope (y := (-1001)) er308 ?_
      refine lv_sipush (v := (-1001)) hx hb dL_refused_311 (by decide) ?_
      refine lv_icmp_ne (tgt := 456) hx hb dL_refused_314 (by decide) (fun c_314 => absurd (by decide) c_314) (fun c_314 => ?_)
      refine lv_aload_n hx hb dL_refused_317 rfl (lv_at hl 3 rfl) ?_
      refine lv_iconst (v := 4) hx hb dL_refused_318 (by decide) ?_
      refine lv_iconst (v := 1) hx hb dL_refused_319 (by decide) ?_
      refine gcS (As := [.ref (ad 0), .int 4, .int 1]) 1112 S G (k_is l cs hF hY hlt ν_265 (4) (1) hK308) cks_yL_is ml_RL_270 hP hS hl.1 ⟨by decide, by decide⟩ rfl (by rfl) (Nat.le_of_ble_eq_true rfl) ⟨by omega, (by show _ ≤ 3400; omega), (by show _ ≤ 6 * 3400; omega)⟩ dL_refused_320 (fun r_267 ν_268 H locs hq_269 hP hS => ?_)
      obtain ⟨hq_269a, hq_269b⟩ := hq_269; subst r_267; subst ν_268
      refine lv_if_eq (tgt := 456) hx hb dL_refused_323 (by decide) (fun c_323 => absurd c_323 (by decide)) (fun c_323 => ?_)
      refine lv_aload_n hx hb dL_refused_326 rfl (lv_at hl 3 rfl) ?_
      refine lv_iconst (v := 0) hx hb dL_refused_327 (by decide) ?_
      refine lv_iconst (v := 1) hx hb dL_refused_328 (by decide) ?_
      refine lv_bipush (v := 41) hx hb dL_refused_329 (by decide) ?_
      refine gcH (As := [.ref (ad 0), .int 0, .int 1, .int 41]) 1114 S G (g_beam l cs hF hY hlt ν_265 (0) (1) (41)) ckh_beam ml_RL_174 hP hS hl.1 ⟨by decide, by decide⟩ rfl (by rfl) (Nat.le_of_ble_eq_true rfl) ⟨by omega, (by show _ ≤ 3400; omega), (by show _ ≤ 6 * 3400; omega)⟩ dL_refused_331 (fun r_270 ν_271 H locs hq_272 hP hS => ?_)
      obtain ⟨hq_272a, hq_272b⟩ := hq_272
      obtain ⟨er331, hR331, hK331⟩ := rf_ch (w := 1) (d := 0) hR308 (t_b4 W0.1.1 h2 hn6) (by decide) hq_272a hq_272b
      refine lv_tope (y := (-1001)) er331 ?_
      refine lv_sipush (v := (-1001)) hx hb dL_refused_334 (by decide) ?_
      refine lv_icmp_ne (tgt := 456) hx hb dL_refused_337 (by decide) (fun c_337 => absurd (by decide) c_337) (fun c_337 => ?_)
      refine lv_aload_n hx hb dL_refused_340 rfl (lv_at hl 3 rfl) ?_
      refine lv_iconst (v := 1) hx hb dL_refused_341 (by decide) ?_
      refine lv_iconst (v := 0) hx hb dL_refused_342 (by decide) ?_
      refine gcS (As := [.ref (ad 0), .int 1, .int 0]) 1118 S G (k_is l cs hF hY hlt ν_271 (1) (0) hK331) cks_yL_is ml_RL_270 hP hS hl.1 ⟨by decide, by decide⟩ rfl (by rfl) (Nat.le_of_ble_eq_true rfl) ⟨by omega, (by show _ ≤ 3400; omega), (by show _ ≤ 6 * 3400; omega)⟩ dL_refused_343 (fun r_273 ν_274 H locs hq_275 hP hS => ?_)
      obtain ⟨hq_275a, hq_275b⟩ := hq_275; subst r_273; subst ν_274
      refine lv_if_eq (tgt := 456) hx hb dL_refused_346 (by decide) (fun c_346 => absurd c_346 (by decide)) (fun c_346 => ?_)
      refine W.widen (k := 1130) (n := 6 * 1130) (by omega) (by omega) ?_
      exact jn_203_3 _ hR331 _ _ _ hP hS (lv_sub hl [0, 1, 2, 3] rfl)
    refine lv_aload_n hx hb dL_refused_90 rfl (lv_at hl 3 rfl) ?_
    refine lv_iload_n hx hb dL_refused_91 rfl (lv_at hl 1 rfl) ?_
    refine lv_iconst (v := 0) hx hb dL_refused_92 (by decide) ?_
    refine lv_bipush (v := 99) hx hb dL_refused_93 (by decide) ?_
    refine gcH (As := [.ref (ad 0), .int (nI (gn μ)), .int 0, .int 99]) 1032 S G (g_friends l cs hF hY hlt ν1 (nI (gn μ)) (0) (99)) ckh_friends ml_RL_171 hP hS hl.1 ⟨by decide, by decide⟩ rfl (by rfl) (Nat.le_of_ble_eq_true rfl) ⟨by omega, (by show _ ≤ 3400; omega), (by show _ ≤ 6 * 3400; omega)⟩ dL_refused_95 (fun r_276 ν_277 H locs hq_278 hP hS => ?_)
    obtain ⟨hq_278a, hq_278b⟩ := hq_278
    obtain ⟨er95, hR95, hK95⟩ := rf_ch (w := 3) (d := (nI (gn μ))) hJ_18 (t_f1 W0.1.1 hn6) (by decide) hq_278a hq_278b
    refine lv_tope (y := (-1001)) er95 ?_
    refine lv_sipush (v := (-1001)) hx hb dL_refused_98 (by decide) ?_
    refine lv_icmp_ne (tgt := 456) hx hb dL_refused_101 (by decide) (fun c_101 => absurd (by decide) c_101) (fun c_101 => ?_)
    refine lv_aload_n hx hb dL_refused_104 rfl (lv_at hl 3 rfl) ?_
    refine lv_iconst (v := 3) hx hb dL_refused_105 (by decide) ?_
    refine lv_iload_n hx hb dL_refused_106 rfl (lv_at hl 1 rfl) ?_
    refine gcS (As := [.ref (ad 0), .int 3, .int (nI (gn μ))]) 1036 S G (k_is l cs hF hY hlt ν_277 (3) (nI (gn μ)) hK95) cks_yL_is ml_RL_270 hP hS hl.1 ⟨by decide, by decide⟩ rfl (by rfl) (Nat.le_of_ble_eq_true rfl) ⟨by omega, (by show _ ≤ 3400; omega), (by show _ ≤ 6 * 3400; omega)⟩ dL_refused_107 (fun r_279 ν_280 H locs hq_281 hP hS => ?_)
    obtain ⟨hq_281a, hq_281b⟩ := hq_281; subst r_279; subst ν_280
    refine lv_if_eq (tgt := 456) hx hb dL_refused_110 (by decide) (fun c_110 => absurd c_110 (by decide)) (fun c_110 => ?_)
    refine lv_aload_n hx hb dL_refused_113 rfl (lv_at hl 3 rfl) ?_
    refine lv_iconst (v := 0) hx hb dL_refused_114 (by decide) ?_
    refine lv_iconst (v := (-1)) hx hb dL_refused_115 (by decide) ?_
    refine lv_iconst (v := 1) hx hb dL_refused_116 (by decide) ?_
    refine gcH (As := [.ref (ad 0), .int 0, .int (-1), .int 1]) 1038 S G (g_friends l cs hF hY hlt ν_277 (0) (-1) (1)) ckh_friends ml_RL_171 hP hS hl.1 ⟨by decide, by decide⟩ rfl (by rfl) (Nat.le_of_ble_eq_true rfl) ⟨by omega, (by show _ ≤ 3400; omega), (by show _ ≤ 6 * 3400; omega)⟩ dL_refused_117 (fun r_282 ν_283 H locs hq_284 hP hS => ?_)
    obtain ⟨hq_284a, hq_284b⟩ := hq_284
    obtain ⟨er117, hR117, hK117⟩ := rf_ch (w := 3) (d := (nI (gn μ))) hR95 (t_f2 W0.1.1 h2 hn6) (by decide) hq_284a hq_284b
    refine lv_tope (y := (-1001)) er117 ?_
    refine lv_sipush (v := (-1001)) hx hb dL_refused_120 (by decide) ?_
    refine lv_icmp_ne (tgt := 456) hx hb dL_refused_123 (by decide) (fun c_123 => absurd (by decide) c_123) (fun c_123 => ?_)
    refine lv_aload_n hx hb dL_refused_126 rfl (lv_at hl 3 rfl) ?_
    refine lv_iconst (v := 3) hx hb dL_refused_127 (by decide) ?_
    refine lv_iload_n hx hb dL_refused_128 rfl (lv_at hl 1 rfl) ?_
    refine gcS (As := [.ref (ad 0), .int 3, .int (nI (gn μ))]) 1042 S G (k_is l cs hF hY hlt ν_283 (3) (nI (gn μ)) hK117) cks_yL_is ml_RL_270 hP hS hl.1 ⟨by decide, by decide⟩ rfl (by rfl) (Nat.le_of_ble_eq_true rfl) ⟨by omega, (by show _ ≤ 3400; omega), (by show _ ≤ 6 * 3400; omega)⟩ dL_refused_129 (fun r_285 ν_286 H locs hq_287 hP hS => ?_)
    obtain ⟨hq_287a, hq_287b⟩ := hq_287; subst r_285; subst ν_286
    refine lv_if_eq (tgt := 456) hx hb dL_refused_132 (by decide) (fun c_132 => absurd c_132 (by decide)) (fun c_132 => ?_)
    refine lv_aload_n hx hb dL_refused_135 rfl (lv_at hl 3 rfl) ?_
    refine lv_iconst (v := 1) hx hb dL_refused_136 (by decide) ?_
    refine lv_iconst (v := 1) hx hb dL_refused_137 (by decide) ?_
    refine lv_bipush (v := 99) hx hb dL_refused_138 (by decide) ?_
    refine gcH (As := [.ref (ad 0), .int 1, .int 1, .int 99]) 1044 S G (g_friends l cs hF hY hlt ν_283 (1) (1) (99)) ckh_friends ml_RL_171 hP hS hl.1 ⟨by decide, by decide⟩ rfl (by rfl) (Nat.le_of_ble_eq_true rfl) ⟨by omega, (by show _ ≤ 3400; omega), (by show _ ≤ 6 * 3400; omega)⟩ dL_refused_140 (fun r_288 ν_289 H locs hq_290 hP hS => ?_)
    obtain ⟨hq_290a, hq_290b⟩ := hq_290
    obtain ⟨er140, hR140, hK140⟩ := rf_ch (w := 4) (d := 1) hR117 (t_f3 W0.1.1 h2 hn6) (by decide) hq_290a hq_290b
    refine lv_tope (y := (-1001)) er140 ?_
    refine lv_sipush (v := (-1001)) hx hb dL_refused_143 (by decide) ?_
    refine lv_icmp_ne (tgt := 456) hx hb dL_refused_146 (by decide) (fun c_146 => absurd (by decide) c_146) (fun c_146 => ?_)
    refine lv_aload_n hx hb dL_refused_149 rfl (lv_at hl 3 rfl) ?_
    refine lv_iconst (v := 4) hx hb dL_refused_150 (by decide) ?_
    refine lv_iconst (v := 1) hx hb dL_refused_151 (by decide) ?_
    refine gcS (As := [.ref (ad 0), .int 4, .int 1]) 1048 S G (k_is l cs hF hY hlt ν_289 (4) (1) hK140) cks_yL_is ml_RL_270 hP hS hl.1 ⟨by decide, by decide⟩ rfl (by rfl) (Nat.le_of_ble_eq_true rfl) ⟨by omega, (by show _ ≤ 3400; omega), (by show _ ≤ 6 * 3400; omega)⟩ dL_refused_152 (fun r_291 ν_292 H locs hq_293 hP hS => ?_)
    obtain ⟨hq_293a, hq_293b⟩ := hq_293; subst r_291; subst ν_292
    refine lv_if_eq (tgt := 456) hx hb dL_refused_155 (by decide) (fun c_155 => absurd c_155 (by decide)) (fun c_155 => ?_)
    refine lv_aload_n hx hb dL_refused_158 rfl (lv_at hl 3 rfl) ?_
    refine lv_iconst (v := 0) hx hb dL_refused_159 (by decide) ?_
    refine lv_iconst (v := 1) hx hb dL_refused_160 (by decide) ?_
    refine lv_bipush (v := 10) hx hb dL_refused_161 (by decide) ?_
    refine gcH (As := [.ref (ad 0), .int 0, .int 1, .int 10]) 1050 S G (g_friends l cs hF hY hlt ν_289 (0) (1) (10)) ckh_friends ml_RL_171 hP hS hl.1 ⟨by decide, by decide⟩ rfl (by rfl) (Nat.le_of_ble_eq_true rfl) ⟨by omega, (by show _ ≤ 3400; omega), (by show _ ≤ 6 * 3400; omega)⟩ dL_refused_163 (fun r_294 ν_295 H locs hq_296 hP hS => ?_)
    obtain ⟨hq_296a, hq_296b⟩ := hq_296
    obtain ⟨er163, hR163, hK163⟩ := rf_ch (w := 1) (d := 0) hR140 (t_f4 W0.1.1 h2 hn6) (by decide) hq_296a hq_296b
    refine lv_tope (y := (-1001)) er163 ?_
    refine lv_sipush (v := (-1001)) hx hb dL_refused_166 (by decide) ?_
    refine lv_icmp_ne (tgt := 456) hx hb dL_refused_169 (by decide) (fun c_169 => absurd (by decide) c_169) (fun c_169 => ?_)
    refine lv_aload_n hx hb dL_refused_172 rfl (lv_at hl 3 rfl) ?_
    refine lv_iconst (v := 1) hx hb dL_refused_173 (by decide) ?_
    refine lv_iconst (v := 0) hx hb dL_refused_174 (by decide) ?_
    refine gcS (As := [.ref (ad 0), .int 1, .int 0]) 1054 S G (k_is l cs hF hY hlt ν_295 (1) (0) hK163) cks_yL_is ml_RL_270 hP hS hl.1 ⟨by decide, by decide⟩ rfl (by rfl) (Nat.le_of_ble_eq_true rfl) ⟨by omega, (by show _ ≤ 3400; omega), (by show _ ≤ 6 * 3400; omega)⟩ dL_refused_175 (fun r_297 ν_298 H locs hq_299 hP hS => ?_)
    obtain ⟨hq_299a, hq_299b⟩ := hq_299; subst r_297; subst ν_298
    refine lv_if_eq (tgt := 456) hx hb dL_refused_178 (by decide) (fun c_178 => absurd c_178 (by decide)) (fun c_178 => ?_)
    refine lv_aload_n hx hb dL_refused_181 rfl (lv_at hl 3 rfl) ?_
    refine lv_iconst (v := 0) hx hb dL_refused_182 (by decide) ?_
    refine lv_iconst (v := 1) hx hb dL_refused_183 (by decide) ?_
    refine lv_iconst (v := (-1)) hx hb dL_refused_184 (by decide) ?_
    refine gcH (As := [.ref (ad 0), .int 0, .int 1, .int (-1)]) 1056 S G (g_friends l cs hF hY hlt ν_295 (0) (1) (-1)) ckh_friends ml_RL_171 hP hS hl.1 ⟨by decide, by decide⟩ rfl (by rfl) (Nat.le_of_ble_eq_true rfl) ⟨by omega, (by show _ ≤ 3400; omega), (by show _ ≤ 6 * 3400; omega)⟩ dL_refused_185 (fun r_300 ν_301 H locs hq_302 hP hS => ?_)
    obtain ⟨hq_302a, hq_302b⟩ := hq_302
    obtain ⟨er185, hR185, hK185⟩ := rf_ch (w := 1) (d := 0) hR163 (t_f5 W0.1.1 h2 hn6) (by decide) hq_302a hq_302b
    refine lv_tope (y := (-1001)) er185 ?_
    refine lv_sipush (v := (-1001)) hx hb dL_refused_188 (by decide) ?_
    refine lv_icmp_ne (tgt := 456) hx hb dL_refused_191 (by decide) (fun c_191 => absurd (by decide) c_191) (fun c_191 => ?_)
    refine lv_aload_n hx hb dL_refused_194 rfl (lv_at hl 3 rfl) ?_
    refine lv_iconst (v := 1) hx hb dL_refused_195 (by decide) ?_
    refine lv_iconst (v := 0) hx hb dL_refused_196 (by decide) ?_
    refine gcS (As := [.ref (ad 0), .int 1, .int 0]) 1060 S G (k_is l cs hF hY hlt ν_301 (1) (0) hK185) cks_yL_is ml_RL_270 hP hS hl.1 ⟨by decide, by decide⟩ rfl (by rfl) (Nat.le_of_ble_eq_true rfl) ⟨by omega, (by show _ ≤ 3400; omega), (by show _ ≤ 6 * 3400; omega)⟩ dL_refused_197 (fun r_303 ν_304 H locs hq_305 hP hS => ?_)
    obtain ⟨hq_305a, hq_305b⟩ := hq_305; subst r_303; subst ν_304
    refine lv_if_eq (tgt := 456) hx hb dL_refused_200 (by decide) (fun c_200 => absurd c_200 (by decide)) (fun c_200 => ?_)
    refine W.widen (k := 1080) (n := 6 * 1080) (by omega) (by omega) ?_
    exact jn_90_2 _ hR185 _ _ _ hP hS (lv_sub hl [0, 1, 2, 3] rfl)
  refine lv_aload_n hx hb dL_refused_18 rfl (lv_at hl 3 rfl) ?_
  refine lv_bipush (v := 21) hx hb dL_refused_19 (by decide) ?_
  refine lv_iconst (v := 1) hx hb dL_refused_21 (by decide) ?_
  refine gcH (As := [.ref (ad 0), .int 21, .int 1]) 1004 S G (g_person l cs hF hY hlt (lnS μ (lbN (μ 277))) (21) (1)) ckh_person ml_RL_168 hP hS hl.1 ⟨by decide, by decide⟩ rfl (by rfl) (Nat.le_of_ble_eq_true rfl) ⟨by omega, (by show _ ≤ 3400; omega), (by show _ ≤ 6 * 3400; omega)⟩ dL_refused_22 (fun r_306 ν_307 H locs hq_308 hP hS => ?_)
  obtain ⟨hq_308a, hq_308b⟩ := hq_308
  obtain ⟨er22, hR22, hK22⟩ := rf_ch (w := 1) (d := 0) (⟨lnS_77, CoE.ln⟩) t_p21 (by decide) hq_308a hq_308b
  refine lv_tope (y := (-1001)) er22 ?_
  refine lv_sipush (v := (-1001)) hx hb dL_refused_25 (by decide) ?_
  refine lv_icmp_ne (tgt := 456) hx hb dL_refused_28 (by decide) (fun c_28 => absurd (by decide) c_28) (fun c_28 => ?_)
  refine lv_aload_n hx hb dL_refused_31 rfl (lv_at hl 3 rfl) ?_
  refine lv_iconst (v := 1) hx hb dL_refused_32 (by decide) ?_
  refine lv_iconst (v := 0) hx hb dL_refused_33 (by decide) ?_
  refine gcS (As := [.ref (ad 0), .int 1, .int 0]) 1008 S G (k_is l cs hF hY hlt ν_307 (1) (0) hK22) cks_yL_is ml_RL_270 hP hS hl.1 ⟨by decide, by decide⟩ rfl (by rfl) (Nat.le_of_ble_eq_true rfl) ⟨by omega, (by show _ ≤ 3400; omega), (by show _ ≤ 6 * 3400; omega)⟩ dL_refused_34 (fun r_309 ν_310 H locs hq_311 hP hS => ?_)
  obtain ⟨hq_311a, hq_311b⟩ := hq_311; subst r_309; subst ν_310
  refine lv_if_eq (tgt := 456) hx hb dL_refused_37 (by decide) (fun c_37 => absurd c_37 (by decide)) (fun c_37 => ?_)
  refine lv_aload_n hx hb dL_refused_40 rfl (lv_at hl 3 rfl) ?_
  refine lv_bipush (v := (-21)) hx hb dL_refused_41 (by decide) ?_
  refine lv_iconst (v := 0) hx hb dL_refused_43 (by decide) ?_
  refine gcH (As := [.ref (ad 0), .int (-21), .int 0]) 1010 S G (g_person l cs hF hY hlt ν_307 (-21) (0)) ckh_person ml_RL_168 hP hS hl.1 ⟨by decide, by decide⟩ rfl (by rfl) (Nat.le_of_ble_eq_true rfl) ⟨by omega, (by show _ ≤ 3400; omega), (by show _ ≤ 6 * 3400; omega)⟩ dL_refused_44 (fun r_312 ν_313 H locs hq_314 hP hS => ?_)
  obtain ⟨hq_314a, hq_314b⟩ := hq_314
  obtain ⟨er44, hR44, hK44⟩ := rf_ch (w := 1) (d := 0) hR22 t_pm (by decide) hq_314a hq_314b
  refine lv_tope (y := (-1001)) er44 ?_
  refine lv_sipush (v := (-1001)) hx hb dL_refused_47 (by decide) ?_
  refine lv_icmp_ne (tgt := 456) hx hb dL_refused_50 (by decide) (fun c_50 => absurd (by decide) c_50) (fun c_50 => ?_)
  refine lv_aload_n hx hb dL_refused_53 rfl (lv_at hl 3 rfl) ?_
  refine lv_iconst (v := 1) hx hb dL_refused_54 (by decide) ?_
  refine lv_iconst (v := 0) hx hb dL_refused_55 (by decide) ?_
  refine gcS (As := [.ref (ad 0), .int 1, .int 0]) 1014 S G (k_is l cs hF hY hlt ν_313 (1) (0) hK44) cks_yL_is ml_RL_270 hP hS hl.1 ⟨by decide, by decide⟩ rfl (by rfl) (Nat.le_of_ble_eq_true rfl) ⟨by omega, (by show _ ≤ 3400; omega), (by show _ ≤ 6 * 3400; omega)⟩ dL_refused_56 (fun r_315 ν_316 H locs hq_317 hP hS => ?_)
  obtain ⟨hq_317a, hq_317b⟩ := hq_317; subst r_315; subst ν_316
  refine lv_if_eq (tgt := 456) hx hb dL_refused_59 (by decide) (fun c_59 => absurd c_59 (by decide)) (fun c_59 => ?_)
  refine lv_iload_n hx hb dL_refused_62 rfl (lv_at hl 1 rfl) ?_
  refine lv_bipush (v := 6) hx hb dL_refused_63 (by decide) ?_
  refine lv_icmp_lt (tgt := 90) hx hb dL_refused_65 (by decide) (fun c_65 => ?_) (fun c_65 => ?_)
  · refine W.widen (k := 1030) (n := 6 * 1030) (by omega) (by omega) ?_
    exact jn_18_1 _ hR44 _ _ _ hP hS (lv_sub hl [0, 1, 2, 3] rfl)
  · have hn66 : gn μ = 6 := Nat.le_antisymm hn6 (Nat.le_of_not_lt (fun z => c_65 (nI_lt (b := 6) z (by decide))))
    refine lv_aload_n hx hb dL_refused_68 rfl (lv_at hl 3 rfl) ?_
    refine lv_iconst (v := 0) hx hb dL_refused_69 (by decide) ?_
    refine lv_iconst (v := 1) hx hb dL_refused_70 (by decide) ?_
    refine gcH (As := [.ref (ad 0), .int 0, .int 1]) 1016 S G (g_person l cs hF hY hlt ν_313 (0) (1)) ckh_person ml_RL_168 hP hS hl.1 ⟨by decide, by decide⟩ rfl (by rfl) (Nat.le_of_ble_eq_true rfl) ⟨by omega, (by show _ ≤ 3400; omega), (by show _ ≤ 6 * 3400; omega)⟩ dL_refused_71 (fun r_318 ν_319 H locs hq_320 hP hS => ?_)
    obtain ⟨hq_320a, hq_320b⟩ := hq_320
    obtain ⟨er71, hR71, hK71⟩ := rf_ch (w := 2) (d := 6) hR44 (t_p0 W0.1.1 hn66) (by decide) hq_320a hq_320b
    refine lv_tope (y := (-1001)) er71 ?_
    refine lv_sipush (v := (-1001)) hx hb dL_refused_74 (by decide) ?_
    refine lv_icmp_ne (tgt := 456) hx hb dL_refused_77 (by decide) (fun c_77 => absurd (by decide) c_77) (fun c_77 => ?_)
    refine lv_aload_n hx hb dL_refused_80 rfl (lv_at hl 3 rfl) ?_
    refine lv_iconst (v := 2) hx hb dL_refused_81 (by decide) ?_
    refine lv_bipush (v := 6) hx hb dL_refused_82 (by decide) ?_
    refine gcS (As := [.ref (ad 0), .int 2, .int 6]) 1020 S G (k_is l cs hF hY hlt ν_319 (2) (6) hK71) cks_yL_is ml_RL_270 hP hS hl.1 ⟨by decide, by decide⟩ rfl (by rfl) (Nat.le_of_ble_eq_true rfl) ⟨by omega, (by show _ ≤ 3400; omega), (by show _ ≤ 6 * 3400; omega)⟩ dL_refused_84 (fun r_321 ν_322 H locs hq_323 hP hS => ?_)
    obtain ⟨hq_323a, hq_323b⟩ := hq_323; subst r_321; subst ν_322
    refine lv_if_eq (tgt := 456) hx hb dL_refused_87 (by decide) (fun c_87 => absurd c_87 (by decide)) (fun c_87 => ?_)
    refine W.widen (k := 1030) (n := 6 * 1030) (by omega) (by omega) ?_
    exact jn_18_1 _ hR71 _ _ _ hP hS (lv_sub hl [0, 1, 2, 3] rfl)

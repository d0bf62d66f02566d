/-! what the law makes (laid by wip/p43/spec_makes.py) -/
theorem cks_yL_makes : CKS yL_makes cL_makes 7 (some .boolean) 2 := ⟨sm_yL_makes, in_RL, co_yL_makes, ⟨by decide +kernel, by decide +kernel, by decide +kernel⟩, by decide⟩
set_option maxHeartbeats 40000000 in
set_option maxRecDepth 100000 in
theorem k_makes (l : Launch) {D : va_G} {ct : Nat → ClassId} {ek ad : Nat → Nat} {N0 : Nat} {X : va_W} {F : State → Prop} (cs : Nat → Nat) (hF : ∀ U, F U → FX ek cs N0 U) (hY : ∀ U, F U → FY U) (hlt : l.stackTraces = false) (μ : Mem) (b : Nat) (LL : Nat) (xs : Nat → Int32) (hSX : ∀ U, F U → SX b LL xs N0 U) (hLL : LL ≤ 260) (hI0 : MkI μ 0 0) :
    MG l yL_makes (.code yL_makes cL_makes 7 (some .boolean)) 10 50 D ct ek ad N0 X F [.ref (ad 0), .ref b] μ (gQi D ct ek ad N0 X (fun r ν => r = 1 ∧ 2 ≤ gn ν ∧ gL ν = 0)) := by
  refine msG (own := RL) (by decide) rfl (Nat.le_of_ble_eq_true rfl) (fun p e s m args below meth c S hr hlocks G hP hS ls hl => ?_)
  have hx := S.1
  have hb := S.2.1
  replace hl : lv_has ls 7 [(0, .ref (ad 0)), (1, .ref b)] := hl
  obtain ⟨n, en, hn2, hn6⟩ : ∃ n, 2 + tN (smV (atV LL xs 0) 5) = n ∧ 2 ≤ n ∧ n ≤ 6 := ⟨_, rfl, by omega, by have := (smN (x := atV LL xs 0) (N := 5) (by decide) (by decide)).2; have e9 : nI 5 = (5 : Int32) := rfl; rw [e9] at this; omega⟩
  have hn0 : ¬ nI n = 0 := nI_ne0 (by omega) (by omega)
  have hn1 : ¬ nI (n - 1) = 0 := nI_ne0 (by omega) (by omega)
  refine lv_iconst (v := 2) hx hb dL_makes_0 (by decide) ?_
  refine lv_aload_n hx hb dL_makes_1 rfl (lv_at hl 1 rfl) ?_
  refine lv_iconst (v := 0) hx hb dL_makes_2 (by decide) ?_
  refine gcS (As := [.ref b, .int (nI 0)]) 0 S G (k_at l cs hF hY hlt μ b LL xs (by first | assumption | omega | decide) (by first | assumption | omega | decide) 0 (by first | assumption | omega | decide)) cks_yL_at ml_RL_161 hP hS hl.1 ⟨by decide, by decide⟩ rfl (by simp only [show (0 : Int32) = nI 0 from (by decide)]; rfl) (Nat.le_of_ble_eq_true rfl) ⟨by omega, (by show _ ≤ 50; omega), (by show _ ≤ 6 * 50; omega)⟩ dL_makes_3 (fun r_1 ν_2 H locs hq_3 hP hS => ?_)
  obtain ⟨hq_3a, hq_3b⟩ := hq_3; subst r_1; subst ν_2
  refine lv_iconst (v := 5) hx hb dL_makes_6 (by decide) ?_
  refine gcS (As := [.int (atV LL xs 0), .int 5]) 0 S G (k_some l cs hF hY hlt μ (atV LL xs 0) (5) (by first | assumption | omega | decide)) cks_yL_some ml_RL_165 hP hS hl.1 ⟨by decide, by decide⟩ rfl (by rfl) (Nat.le_of_ble_eq_true rfl) ⟨by omega, (by show _ ≤ 50; omega), (by show _ ≤ 6 * 50; omega)⟩ dL_makes_7 (fun r_4 ν_5 H locs hq_6 hP hS => ?_)
  obtain ⟨hq_6a, hq_6b⟩ := hq_6; subst r_4; subst ν_5
  refine lv_tope (y := nI (tN (smV (atV LL xs 0) 5))) (smN (N := 5) (by decide) (by decide)).1 ?_
  refine nadd hx hb 2 (tN (smV (atV LL xs 0) 5)) dL_makes_10 (by decide) rfl ?_
  refine lv_tope (y := nI n) (congrArg nI en) ?_
  refine lv_istore_n (lv' := [(2, .int (nI n)), (0, .ref (ad 0)), (1, .ref b)]) hx hb dL_makes_11 rfl hl (by decide) rfl (fun ls hl => ?_)
  refine lv_iconst (v := 0) hx hb dL_makes_12 (by decide) ?_
  refine lv_istore_n (lv' := [(3, .int 0), (2, .int (nI n)), (0, .ref (ad 0)), (1, .ref b)]) hx hb dL_makes_13 rfl hl (by decide) rfl (fun ls hl => ?_)
  have key_14 : ∀ (d k : Nat), k + d = n → ∀ (ν : Mem), (MkI ν k 0) → ∀ (H : Heap) (locs : List Loc) (ls : Array Slot), wG D ct ek ad X ν H → va_S (fr N0) s.heap H locs → lv_has ls 7 [(3, .int (nI k)), (2, .int (nI n)), (0, .ref (ad 0)), (1, .ref b)] → W p l e (rmd 10 50 (6 * 50)) s m args below meth c H locs (2 * k + 0) (6 * (2 * k + 0)) (MQ below (gQi D ct ek ad N0 X (fun r ν => r = 1 ∧ 2 ≤ gn ν ∧ gL ν = 0)) args s 50 (6 * 50) (fr N0)) (F0 m 14 ls []) := by
    intro d
    induction d with
    | zero =>
      intro k9 hk
      obtain rfl : n = k9 := by omega
      intro ν hν H locs ls hP hS hl
      refine lv_iload_n hx hb dL_makes_14 rfl (lv_at hl 0 rfl) ?_
      refine lv_iload_n hx hb dL_makes_15 rfl (lv_at hl 1 rfl) ?_
      refine lv_icmp_ge (tgt := 71) hx hb dL_makes_16 (by decide) (fun c_16 => ?_) (fun c_16 => absurd (nI_le (by omega) (by omega)) c_16)
      refine lv_iconst (v := 0) hx hb dL_makes_71 (by decide) ?_
      refine lv_istore_n (lv' := [(3, .int 0), (2, .int (nI n)), (0, .ref (ad 0)), (1, .ref b)]) hx hb dL_makes_72 rfl hl (by decide) rfl (fun ls hl => ?_)
      have key_73 : ∀ (d k : Nat), k + d = 7 → ∀ (ν : Mem), (MkI ν n 0) → ∀ (H : Heap) (locs : List Loc) (ls : Array Slot), wG D ct ek ad X ν H → va_S (fr N0) s.heap H locs → lv_has ls 7 [(3, .int (nI k)), (2, .int (nI n)), (0, .ref (ad 0)), (1, .ref b)] → W p l e (rmd 10 50 (6 * 50)) s m args below meth c H locs (3 * k + 12) (6 * (3 * k + 12)) (MQ below (gQi D ct ek ad N0 X (fun r ν => r = 1 ∧ 2 ≤ gn ν ∧ gL ν = 0)) args s 50 (6 * 50) (fr N0)) (F0 m 73 ls []) := by
        intro d
        induction d with
        | zero =>
          intro k9 hk
          obtain rfl : 7 = k9 := by omega
          intro ν hν H locs ls hP hS hl
          refine lv_iload_n hx hb dL_makes_73 rfl (lv_at hl 0 rfl) ?_
          refine lv_bipush (v := 7) hx hb dL_makes_74 (by decide) ?_
          refine lv_icmp_ge (tgt := 157) hx hb dL_makes_76 (by decide) (fun c_76 => ?_) (fun c_76 => absurd (nI_le (a := 7) (b := 7) (by decide) (by decide)) c_76)
          refine lv_iconst (v := 0) hx hb dL_makes_157 (by decide) ?_
          refine lv_istore_n (lv' := [(3, .int 0), (2, .int (nI n)), (0, .ref (ad 0)), (1, .ref b)]) hx hb dL_makes_158 rfl hl (by decide) rfl (fun ls hl => ?_)
          have key_159 : ∀ (d k : Nat), k + d = 3 → ∀ (ν : Mem), (MkI ν n k) → ∀ (H : Heap) (locs : List Loc) (ls : Array Slot), wG D ct ek ad X ν H → va_S (fr N0) s.heap H locs → lv_has ls 7 [(3, .int (nI k)), (2, .int (nI n)), (0, .ref (ad 0)), (1, .ref b)] → W p l e (rmd 10 50 (6 * 50)) s m args below meth c H locs (3 * k + 33) (6 * (3 * k + 33)) (MQ below (gQi D ct ek ad N0 X (fun r ν => r = 1 ∧ 2 ≤ gn ν ∧ gL ν = 0)) args s 50 (6 * 50) (fr N0)) (F0 m 159 ls []) := by
            intro d
            induction d with
            | zero =>
              intro k9 hk
              obtain rfl : 3 = k9 := by omega
              intro ν hν H locs ls hP hS hl
              obtain ⟨σk, -, Ck⟩ := id hP
              refine lv_iload_n hx hb dL_makes_159 rfl (lv_at hl 0 rfl) ?_
              refine lv_iconst (v := 3) hx hb dL_makes_160 (by decide) ?_
              refine lv_icmp_ge (tgt := 243) hx hb dL_makes_161 (by decide) (fun c_161 => ?_) (fun c_161 => absurd (nI_le (a := 3) (b := 3) (by decide) (by decide)) c_161)
              refine lv_aload_n hx hb dL_makes_243 rfl (lv_at hl 2 rfl) ?_
              refine lv_aload_n hx hb dL_makes_244 rfl (lv_at hl 3 rfl) ?_
              refine lv_bipush (v := 17) hx hb dL_makes_245 (by decide) ?_
              refine gcS (As := [.ref b, .int (nI 17)]) (3 * 3 + 33) S G (k_at l cs hF hY hlt ν b LL xs (by first | assumption | omega | decide) (by first | assumption | omega | decide) 17 (by first | assumption | omega | decide)) cks_yL_at ml_RL_161 hP hS hl.1 ⟨by decide, by decide⟩ rfl (by simp only [show (17 : Int32) = nI 17 from (by decide)]; rfl) (Nat.le_of_ble_eq_true rfl) ⟨by omega, (by show _ ≤ 50; omega), (by show _ ≤ 6 * 50; omega)⟩ dL_makes_247 (fun r_7 ν_8 H locs hq_9 hP hS => ?_)
              obtain ⟨hq_9a, hq_9b⟩ := hq_9; subst r_7; subst ν_8
              refine lv_iload_n hx hb dL_makes_250 rfl (lv_at hl 1 rfl) ?_
              refine gcS (As := [.int (atV LL xs 17), .int (nI n)]) (3 * 3 + 33) S G (k_some l cs hF hY hlt ν (atV LL xs 17) (nI n) (by first | assumption | omega | decide)) cks_yL_some ml_RL_165 hP hS hl.1 ⟨by decide, by decide⟩ rfl (by rfl) (Nat.le_of_ble_eq_true rfl) ⟨by omega, (by show _ ≤ 50; omega), (by show _ ≤ 6 * 50; omega)⟩ dL_makes_251 (fun r_10 ν_11 H locs hq_12 hP hS => ?_)
              obtain ⟨hq_12a, hq_12b⟩ := hq_12; subst r_10; subst ν_11
              obtain ⟨p1, ep1, lp1⟩ := smX (x := atV LL xs 17) (N := n) (by omega) (by omega)
              refine lv_tope (y := nI p1) ep1 ?_
              refine lv_aload_n hx hb dL_makes_254 rfl (lv_at hl 3 rfl) ?_
              refine lv_bipush (v := 17) hx hb dL_makes_255 (by decide) ?_
              refine gcS (As := [.ref b, .int (nI 17)]) (3 * 3 + 33) S G (k_at l cs hF hY hlt ν b LL xs (by first | assumption | omega | decide) (by first | assumption | omega | decide) 17 (by first | assumption | omega | decide)) cks_yL_at ml_RL_161 hP hS hl.1 ⟨by decide, by decide⟩ rfl (by simp only [show (17 : Int32) = nI 17 from (by decide)]; rfl) (Nat.le_of_ble_eq_true rfl) ⟨by omega, (by show _ ≤ 50; omega), (by show _ ≤ 6 * 50; omega)⟩ dL_makes_257 (fun r_13 ν_14 H locs hq_15 hP hS => ?_)
              obtain ⟨hq_15a, hq_15b⟩ := hq_15; subst r_13; subst ν_14
              refine lv_iconst (v := 4) hx hb dL_makes_260 (by decide) ?_
              refine lv_ishr hx hb dL_makes_261 ?_
              refine lv_bipush (v := 10) hx hb dL_makes_262 (by decide) ?_
              refine gcS (As := [.int ((atV LL xs 17) >>> (4 &&& 31)), .int 10]) (3 * 3 + 33) S G (k_some l cs hF hY hlt ν ((atV LL xs 17) >>> (4 &&& 31)) (10) (by first | assumption | omega | decide)) cks_yL_some ml_RL_165 hP hS hl.1 ⟨by decide, by decide⟩ rfl (by rfl) (Nat.le_of_ble_eq_true rfl) ⟨by omega, (by show _ ≤ 50; omega), (by show _ ≤ 6 * 50; omega)⟩ dL_makes_264 (fun r_16 ν_17 H locs hq_18 hP hS => ?_)
              obtain ⟨hq_18a, hq_18b⟩ := hq_18; subst r_16; subst ν_17
              obtain ⟨w1, ew1, lw1⟩ := smX (x := (atV LL xs 17) >>> (4 &&& 31)) (N := 10) (by decide) (by decide)
              refine lv_tope (y := nI w1) ew1 ?_
              refine gcH (As := [.ref (ad 0), .int (nI p1), .int (nI w1)]) (3 * 3 + 35) S G (g_habit l cs hF hY hlt ν (nI p1) (nI w1)) ckh_habit ml_RL_176 hP hS hl.1 ⟨by decide, by decide⟩ rfl (by rfl) (Nat.le_of_ble_eq_true rfl) ⟨by omega, (by show _ ≤ 50; omega), (by show _ ≤ 6 * 50; omega)⟩ dL_makes_267 (fun r_19 ν_20 H locs hq_21 hP hS => ?_)
              obtain ⟨hq_21a, hq_21b⟩ := hq_21
              obtain ⟨hI1, h5⟩ := mk_hab Ck hν lp1 lw1 hq_21a hq_21b
              refine lv_istore_n (lv' := [(3, .int r_19), (2, .int (nI n)), (0, .ref (ad 0)), (1, .ref b)]) hx hb dL_makes_270 rfl hl (by decide) rfl (fun ls hl => ?_)
              refine lv_iload_n hx hb dL_makes_271 rfl (lv_at hl 0 rfl) ?_
              refine lv_sipush (v := (-1001)) hx hb dL_makes_272 (by decide) ?_
              refine lv_icmp_ne (tgt := 289) hx hb dL_makes_275 (by decide) (fun c_275 => ?_) (fun c_275 => ?_)
              · refine lv_aload_n hx hb dL_makes_289 rfl (lv_at hl 3 rfl) ?_
                refine lv_bipush (v := 18) hx hb dL_makes_290 (by decide) ?_
                refine gcS (As := [.ref b, .int (nI 18)]) (3 * 3 + 35) S G (k_at l cs hF hY hlt ν_20 b LL xs (by first | assumption | omega | decide) (by first | assumption | omega | decide) 18 (by first | assumption | omega | decide)) cks_yL_at ml_RL_161 hP hS hl.1 ⟨by decide, by decide⟩ rfl (by simp only [show (18 : Int32) = nI 18 from (by decide)]; rfl) (Nat.le_of_ble_eq_true rfl) ⟨by omega, (by show _ ≤ 50; omega), (by show _ ≤ 6 * 50; omega)⟩ dL_makes_292 (fun r_22 ν_23 H locs hq_24 hP hS => ?_)
                obtain ⟨hq_24a, hq_24b⟩ := hq_24; subst r_22; subst ν_23
                refine lv_iconst (v := 1) hx hb dL_makes_295 (by decide) ?_
                refine lv_iand hx hb dL_makes_296 ?_
                refine lv_if_eq (tgt := 307) hx hb dL_makes_297 (by decide) (fun c_297 => ?_) (fun c_297 => ?_)
                · refine lv_iconst (v := 1) hx hb dL_makes_307 (by decide) ?_
                  refine lv_goto (tgt := 312) hx hb dL_makes_308 (by decide) ?_
                  exact eGz S hr hlocks hP hS ⟨by omega, by omega⟩ (by decide) dL_makes_312 (by first | exact ⟨rfl, hR.2.1, hR.2.2⟩ | exact ⟨rfl, (by have := hI1.1; omega), hI1.2.2⟩)
                · obtain ⟨σr, -, Cr⟩ := id hP
                  refine lv_aload_n hx hb dL_makes_300 rfl (lv_at hl 2 rfl) ?_
                  refine gcH (As := [.ref (ad 0)]) (3 * 3 + 37) S G (g_round l cs hF hY hlt ν_20) ckh_round ml_RL_179 hP hS hl.1 ⟨by decide, by decide⟩ rfl (by rfl) (Nat.le_of_ble_eq_true rfl) ⟨by omega, (by show _ ≤ 50; omega), (by show _ ≤ 6 * 50; omega)⟩ dL_makes_301 (fun r_25 ν_26 H locs hq_27 hP hS => ?_)
                  obtain ⟨hq_27a, hq_27b⟩ := hq_27
                  have hR := mk_rnd Cr hI1 hn2 hq_27a hq_27b
                  refine lv_if_lt (tgt := 311) hx hb dL_makes_304 (by decide) (fun c_304 => absurd c_304 hR.1) (fun c_304 => ?_)
                  refine lv_iconst (v := 1) hx hb dL_makes_307 (by decide) ?_
                  refine lv_goto (tgt := 312) hx hb dL_makes_308 (by decide) ?_
                  exact eGz S hr hlocks hP hS ⟨by omega, by omega⟩ (by decide) dL_makes_312 (by first | exact ⟨rfl, hR.2.1, hR.2.2⟩ | exact ⟨rfl, (by have := hI1.1; omega), hI1.2.2⟩)
              · refine lv_aload_n hx hb dL_makes_278 rfl (lv_at hl 2 rfl) ?_
                refine lv_iconst (v := 0) hx hb dL_makes_279 (by decide) ?_
                refine gcH (As := [.ref (ad 0), .int 0]) (3 * 3 + 36) S G (g_reason l cs hF hY hlt ν_20 (0)) ckh_reason ml_RL_156 hP hS hl.1 ⟨by decide, by decide⟩ rfl (by rfl) (Nat.le_of_ble_eq_true rfl) ⟨by omega, (by show _ ≤ 50; omega), (by show _ ≤ 6 * 50; omega)⟩ dL_makes_280 (fun r_28 ν_29 H locs hq_30 hP hS => ?_)
                obtain ⟨hq_30a, hq_30b⟩ := hq_30; subst r_28; subst ν_29
                refine lv_tope (y := 5) (h5 c_275) ?_
                refine lv_iconst (v := 5) hx hb dL_makes_283 (by decide) ?_
                refine lv_icmp_eq (tgt := 289) hx hb dL_makes_284 (by decide) (fun c_284 => ?_) (fun c_284 => absurd rfl c_284)
                refine lv_aload_n hx hb dL_makes_289 rfl (lv_at hl 3 rfl) ?_
                refine lv_bipush (v := 18) hx hb dL_makes_290 (by decide) ?_
                refine gcS (As := [.ref b, .int (nI 18)]) (3 * 3 + 36) S G (k_at l cs hF hY hlt ν_20 b LL xs (by first | assumption | omega | decide) (by first | assumption | omega | decide) 18 (by first | assumption | omega | decide)) cks_yL_at ml_RL_161 hP hS hl.1 ⟨by decide, by decide⟩ rfl (by simp only [show (18 : Int32) = nI 18 from (by decide)]; rfl) (Nat.le_of_ble_eq_true rfl) ⟨by omega, (by show _ ≤ 50; omega), (by show _ ≤ 6 * 50; omega)⟩ dL_makes_292 (fun r_31 ν_32 H locs hq_33 hP hS => ?_)
                obtain ⟨hq_33a, hq_33b⟩ := hq_33; subst r_31; subst ν_32
                refine lv_iconst (v := 1) hx hb dL_makes_295 (by decide) ?_
                refine lv_iand hx hb dL_makes_296 ?_
                refine lv_if_eq (tgt := 307) hx hb dL_makes_297 (by decide) (fun c_297 => ?_) (fun c_297 => ?_)
                · refine lv_iconst (v := 1) hx hb dL_makes_307 (by decide) ?_
                  refine lv_goto (tgt := 312) hx hb dL_makes_308 (by decide) ?_
                  exact eGz S hr hlocks hP hS ⟨by omega, by omega⟩ (by decide) dL_makes_312 (by first | exact ⟨rfl, hR.2.1, hR.2.2⟩ | exact ⟨rfl, (by have := hI1.1; omega), hI1.2.2⟩)
                · obtain ⟨σr, -, Cr⟩ := id hP
                  refine lv_aload_n hx hb dL_makes_300 rfl (lv_at hl 2 rfl) ?_
                  refine gcH (As := [.ref (ad 0)]) (3 * 3 + 38) S G (g_round l cs hF hY hlt ν_20) ckh_round ml_RL_179 hP hS hl.1 ⟨by decide, by decide⟩ rfl (by rfl) (Nat.le_of_ble_eq_true rfl) ⟨by omega, (by show _ ≤ 50; omega), (by show _ ≤ 6 * 50; omega)⟩ dL_makes_301 (fun r_34 ν_35 H locs hq_36 hP hS => ?_)
                  obtain ⟨hq_36a, hq_36b⟩ := hq_36
                  have hR := mk_rnd Cr hI1 hn2 hq_36a hq_36b
                  refine lv_if_lt (tgt := 311) hx hb dL_makes_304 (by decide) (fun c_304 => absurd c_304 hR.1) (fun c_304 => ?_)
                  refine lv_iconst (v := 1) hx hb dL_makes_307 (by decide) ?_
                  refine lv_goto (tgt := 312) hx hb dL_makes_308 (by decide) ?_
                  exact eGz S hr hlocks hP hS ⟨by omega, by omega⟩ (by decide) dL_makes_312 (by first | exact ⟨rfl, hR.2.1, hR.2.2⟩ | exact ⟨rfl, (by have := hI1.1; omega), hI1.2.2⟩)
            | succ d ih =>
              intro k hk ν hν H locs ls hP hS hl
              have hkn : k < 3 := by omega
              obtain ⟨σk, -, Ck⟩ := id hP
              refine lv_iload_n hx hb dL_makes_159 rfl (lv_at hl 0 rfl) ?_
              refine lv_iconst (v := 3) hx hb dL_makes_160 (by decide) ?_
              refine lv_icmp_ge (tgt := 243) hx hb dL_makes_161 (by decide) (fun c_161 => absurd c_161 (nI_ge (b := 3) (by omega) (by decide))) (fun c_161 => ?_)
              refine lv_aload_n hx hb dL_makes_164 rfl (lv_at hl 3 rfl) ?_
              refine lv_bipush (v := 14) hx hb dL_makes_165 (by decide) ?_
              refine lv_iload_n hx hb dL_makes_167 rfl (lv_at hl 0 rfl) ?_
              refine nadd hx hb 14 k dL_makes_168 (by decide) rfl ?_
              refine gcS (As := [.ref b, .int (nI (14 + k))]) (3 * k + 33) S G (k_at l cs hF hY hlt ν b LL xs (by first | assumption | omega | decide) (by first | assumption | omega | decide) (14 + k) (by first | assumption | omega | decide)) cks_yL_at ml_RL_161 hP hS hl.1 ⟨by decide, by decide⟩ rfl (by rfl) (Nat.le_of_ble_eq_true rfl) ⟨by omega, (by show _ ≤ 50; omega), (by show _ ≤ 6 * 50; omega)⟩ dL_makes_169 (fun r_37 ν_38 H locs hq_39 hP hS => ?_)
              obtain ⟨hq_39a, hq_39b⟩ := hq_39; subst r_37; subst ν_38
              refine lv_istore (lv' := [(4, .int (atV LL xs (14 + k))), (3, .int (nI k)), (2, .int (nI n)), (0, .ref (ad 0)), (1, .ref b)]) hx hb dL_makes_172 hl (by decide) rfl (fun ls hl => ?_)
              refine lv_iload hx hb dL_makes_174 (lv_at hl 0 rfl) ?_
              refine lv_iload_n hx hb dL_makes_176 rfl (lv_at hl 2 rfl) ?_
              refine gcS (As := [.int (atV LL xs (14 + k)), .int (nI n)]) (3 * k + 33) S G (k_some l cs hF hY hlt ν (atV LL xs (14 + k)) (nI n) (by first | assumption | omega | decide)) cks_yL_some ml_RL_165 hP hS hl.1 ⟨by decide, by decide⟩ rfl (by rfl) (Nat.le_of_ble_eq_true rfl) ⟨by omega, (by show _ ≤ 50; omega), (by show _ ≤ 6 * 50; omega)⟩ dL_makes_177 (fun r_40 ν_41 H locs hq_42 hP hS => ?_)
              obtain ⟨hq_42a, hq_42b⟩ := hq_42; subst r_40; subst ν_41
              obtain ⟨p1, ep1, lp1⟩ := smX (x := atV LL xs (14 + k)) (N := n) (by omega) (by omega)
              refine lv_tope (y := nI p1) ep1 ?_
              refine lv_istore (lv' := [(5, .int (nI p1)), (4, .int (atV LL xs (14 + k))), (3, .int (nI k)), (2, .int (nI n)), (0, .ref (ad 0)), (1, .ref b)]) hx hb dL_makes_180 hl (by decide) rfl (fun ls hl => ?_)
              refine lv_aload_n hx hb dL_makes_182 rfl (lv_at hl 4 rfl) ?_
              refine lv_iload hx hb dL_makes_183 (lv_at hl 0 rfl) ?_
              refine lv_iload hx hb dL_makes_185 (lv_at hl 0 rfl) ?_
              refine lv_iconst (v := 1) hx hb dL_makes_187 (by decide) ?_
              refine nadd hx hb p1 1 dL_makes_188 rfl (by decide) ?_
              refine lv_iload hx hb dL_makes_189 (lv_at hl 1 rfl) ?_
              refine lv_iconst (v := 3) hx hb dL_makes_191 (by decide) ?_
              refine lv_ishr hx hb dL_makes_192 ?_
              refine lv_iload_n hx hb dL_makes_193 rfl (lv_at hl 3 rfl) ?_
              refine lv_iconst (v := 1) hx hb dL_makes_194 (by decide) ?_
              refine nsub hx hb n 1 dL_makes_195 rfl (by decide) (by omega) ?_
              refine gcS (As := [.int ((atV LL xs (14 + k)) >>> (3 &&& 31)), .int (nI (n - 1))]) (3 * k + 33) S G (k_some l cs hF hY hlt ν ((atV LL xs (14 + k)) >>> (3 &&& 31)) (nI (n - 1)) (by first | assumption | omega | decide)) cks_yL_some ml_RL_165 hP hS hl.1 ⟨by decide, by decide⟩ rfl (by rfl) (Nat.le_of_ble_eq_true rfl) ⟨by omega, (by show _ ≤ 50; omega), (by show _ ≤ 6 * 50; omega)⟩ dL_makes_196 (fun r_43 ν_44 H locs hq_45 hP hS => ?_)
              obtain ⟨hq_45a, hq_45b⟩ := hq_45; subst r_43; subst ν_44
              obtain ⟨t2, et2, lt2⟩ := smX (x := (atV LL xs (14 + k)) >>> (3 &&& 31)) (N := (n - 1)) (by omega) (by omega)
              refine lv_tope (y := nI t2) et2 ?_
              refine nadd hx hb (p1 + 1) t2 dL_makes_199 rfl rfl ?_
              refine lv_iload_n hx hb dL_makes_200 rfl (lv_at hl 3 rfl) ?_
              refine nrem hx hb ((p1 + 1) + t2) n dL_makes_201 rfl rfl (by omega) (by omega) (by omega) ?_
              refine lv_iload hx hb dL_makes_202 (lv_at hl 1 rfl) ?_
              refine lv_bipush (v := 6) hx hb dL_makes_204 (by decide) ?_
              refine lv_ishr hx hb dL_makes_206 ?_
              refine lv_bipush (v := 41) hx hb dL_makes_207 (by decide) ?_
              refine gcS (As := [.int ((atV LL xs (14 + k)) >>> (6 &&& 31)), .int 41]) (3 * k + 33) S G (k_some l cs hF hY hlt ν ((atV LL xs (14 + k)) >>> (6 &&& 31)) (41) (by first | assumption | omega | decide)) cks_yL_some ml_RL_165 hP hS hl.1 ⟨by decide, by decide⟩ rfl (by rfl) (Nat.le_of_ble_eq_true rfl) ⟨by omega, (by show _ ≤ 50; omega), (by show _ ≤ 6 * 50; omega)⟩ dL_makes_209 (fun r_46 ν_47 H locs hq_48 hP hS => ?_)
              obtain ⟨hq_48a, hq_48b⟩ := hq_48; subst r_46; subst ν_47
              obtain ⟨w1, ew1, lw1⟩ := smX (x := (atV LL xs (14 + k)) >>> (6 &&& 31)) (N := 41) (by decide) (by decide)
              have hmd := md_n lp1 lt2
              refine lv_tope (y := nI w1) ew1 ?_
              refine gcH (As := [.ref (ad 0), .int (nI p1), .int (nI (((p1 + 1) + t2) % n)), .int (nI w1)]) (3 * k + 35) S G (g_beam l cs hF hY hlt ν (nI p1) (nI (((p1 + 1) + t2) % n)) (nI w1)) ckh_beam ml_RL_174 hP hS hl.1 ⟨by decide, by decide⟩ rfl (by rfl) (Nat.le_of_ble_eq_true rfl) ⟨by omega, (by show _ ≤ 50; omega), (by show _ ≤ 6 * 50; omega)⟩ dL_makes_212 (fun r_49 ν_50 H locs hq_51 hP hS => ?_)
              obtain ⟨hq_51a, hq_51b⟩ := hq_51
              obtain ⟨hI1, h5⟩ := mk_bea Ck hν (by omega) lp1 hmd.1 hmd.2 lw1 hq_51a hq_51b
              refine lv_istore (lv' := [(6, .int r_49), (5, .int (nI p1)), (4, .int (atV LL xs (14 + k))), (3, .int (nI k)), (2, .int (nI n)), (0, .ref (ad 0)), (1, .ref b)]) hx hb dL_makes_215 hl (by decide) rfl (fun ls hl => ?_)
              refine lv_iload hx hb dL_makes_217 (lv_at hl 0 rfl) ?_
              refine lv_sipush (v := (-1001)) hx hb dL_makes_219 (by decide) ?_
              refine lv_icmp_ne (tgt := 237) hx hb dL_makes_222 (by decide) (fun c_222 => ?_) (fun c_222 => ?_)
              · refine lv_iinc (v := nI (k + 1)) (lv' := [(3, .int (nI (k + 1))), (6, .int r_49), (5, .int (nI p1)), (4, .int (atV LL xs (14 + k))), (2, .int (nI n)), (0, .ref (ad 0)), (1, .ref b)]) hx hb dL_makes_237 hl (k := 3) rfl (nI_inc _) (by decide) rfl (fun ls hl => ?_)
                refine lv_goto (tgt := 159) hx hb dL_makes_240 (by decide) ?_
                refine W.widen (k := (3 * (k + 1) + 33)) (n := 6 * (3 * (k + 1) + 33)) (by omega) (by omega) ?_
                exact ih (k + 1) (by omega) _ (by assumption) _ _ _ hP hS (lv_v (lv_sub (l' := [(3, .int (nI (k + 1))), (2, .int (nI n)), (0, .ref (ad 0)), (1, .ref b)]) hl [0, 4, 5, 6] rfl) rfl)
              · refine lv_aload_n hx hb dL_makes_225 rfl (lv_at hl 5 rfl) ?_
                refine lv_iconst (v := 0) hx hb dL_makes_226 (by decide) ?_
                refine gcH (As := [.ref (ad 0), .int 0]) (3 * k + 36) S G (g_reason l cs hF hY hlt ν_50 (0)) ckh_reason ml_RL_156 hP hS hl.1 ⟨by decide, by decide⟩ rfl (by rfl) (Nat.le_of_ble_eq_true rfl) ⟨by omega, (by show _ ≤ 50; omega), (by show _ ≤ 6 * 50; omega)⟩ dL_makes_227 (fun r_52 ν_53 H locs hq_54 hP hS => ?_)
                obtain ⟨hq_54a, hq_54b⟩ := hq_54; subst r_52; subst ν_53
                refine lv_tope (y := 9) (h5 c_222) ?_
                refine lv_bipush (v := 9) hx hb dL_makes_230 (by decide) ?_
                refine lv_icmp_eq (tgt := 237) hx hb dL_makes_232 (by decide) (fun c_232 => ?_) (fun c_232 => absurd rfl c_232)
                refine lv_iinc (v := nI (k + 1)) (lv' := [(3, .int (nI (k + 1))), (6, .int r_49), (5, .int (nI p1)), (4, .int (atV LL xs (14 + k))), (2, .int (nI n)), (0, .ref (ad 0)), (1, .ref b)]) hx hb dL_makes_237 hl (k := 3) rfl (nI_inc _) (by decide) rfl (fun ls hl => ?_)
                refine lv_goto (tgt := 159) hx hb dL_makes_240 (by decide) ?_
                refine W.widen (k := (3 * (k + 1) + 33)) (n := 6 * (3 * (k + 1) + 33)) (by omega) (by omega) ?_
                exact ih (k + 1) (by omega) _ (by assumption) _ _ _ hP hS (lv_v (lv_sub (l' := [(3, .int (nI (k + 1))), (2, .int (nI n)), (0, .ref (ad 0)), (1, .ref b)]) hl [0, 4, 5, 6] rfl) rfl)
          refine W.widen (k := (3 * 0 + 33)) (n := 6 * (3 * 0 + 33)) (by omega) (by omega) ?_
          exact key_159 3 0 (by omega) _ (by assumption) _ _ _ hP hS (lv_sub hl [0, 1, 2, 3] rfl)
        | succ d ih =>
          intro k hk ν hν H locs ls hP hS hl
          have hkn : k < 7 := by omega
          obtain ⟨σk, -, Ck⟩ := id hP
          refine lv_iload_n hx hb dL_makes_73 rfl (lv_at hl 0 rfl) ?_
          refine lv_bipush (v := 7) hx hb dL_makes_74 (by decide) ?_
          refine lv_icmp_ge (tgt := 157) hx hb dL_makes_76 (by decide) (fun c_76 => absurd c_76 (nI_ge (b := 7) (by omega) (by decide))) (fun c_76 => ?_)
          refine lv_aload_n hx hb dL_makes_79 rfl (lv_at hl 3 rfl) ?_
          refine lv_bipush (v := 7) hx hb dL_makes_80 (by decide) ?_
          refine lv_iload_n hx hb dL_makes_82 rfl (lv_at hl 0 rfl) ?_
          refine nadd hx hb 7 k dL_makes_83 (by decide) rfl ?_
          refine gcS (As := [.ref b, .int (nI (7 + k))]) (3 * k + 12) S G (k_at l cs hF hY hlt ν b LL xs (by first | assumption | omega | decide) (by first | assumption | omega | decide) (7 + k) (by first | assumption | omega | decide)) cks_yL_at ml_RL_161 hP hS hl.1 ⟨by decide, by decide⟩ rfl (by rfl) (Nat.le_of_ble_eq_true rfl) ⟨by omega, (by show _ ≤ 50; omega), (by show _ ≤ 6 * 50; omega)⟩ dL_makes_84 (fun r_55 ν_56 H locs hq_57 hP hS => ?_)
          obtain ⟨hq_57a, hq_57b⟩ := hq_57; subst r_55; subst ν_56
          refine lv_istore (lv' := [(4, .int (atV LL xs (7 + k))), (3, .int (nI k)), (2, .int (nI n)), (0, .ref (ad 0)), (1, .ref b)]) hx hb dL_makes_87 hl (by decide) rfl (fun ls hl => ?_)
          refine lv_iload hx hb dL_makes_89 (lv_at hl 0 rfl) ?_
          refine lv_iload_n hx hb dL_makes_91 rfl (lv_at hl 2 rfl) ?_
          refine gcS (As := [.int (atV LL xs (7 + k)), .int (nI n)]) (3 * k + 12) S G (k_some l cs hF hY hlt ν (atV LL xs (7 + k)) (nI n) (by first | assumption | omega | decide)) cks_yL_some ml_RL_165 hP hS hl.1 ⟨by decide, by decide⟩ rfl (by rfl) (Nat.le_of_ble_eq_true rfl) ⟨by omega, (by show _ ≤ 50; omega), (by show _ ≤ 6 * 50; omega)⟩ dL_makes_92 (fun r_58 ν_59 H locs hq_60 hP hS => ?_)
          obtain ⟨hq_60a, hq_60b⟩ := hq_60; subst r_58; subst ν_59
          obtain ⟨p1, ep1, lp1⟩ := smX (x := atV LL xs (7 + k)) (N := n) (by omega) (by omega)
          refine lv_tope (y := nI p1) ep1 ?_
          refine lv_istore (lv' := [(5, .int (nI p1)), (4, .int (atV LL xs (7 + k))), (3, .int (nI k)), (2, .int (nI n)), (0, .ref (ad 0)), (1, .ref b)]) hx hb dL_makes_95 hl (by decide) rfl (fun ls hl => ?_)
          refine lv_aload_n hx hb dL_makes_97 rfl (lv_at hl 4 rfl) ?_
          refine lv_iload hx hb dL_makes_98 (lv_at hl 0 rfl) ?_
          refine lv_iload hx hb dL_makes_100 (lv_at hl 0 rfl) ?_
          refine lv_iconst (v := 1) hx hb dL_makes_102 (by decide) ?_
          refine nadd hx hb p1 1 dL_makes_103 rfl (by decide) ?_
          refine lv_iload hx hb dL_makes_104 (lv_at hl 1 rfl) ?_
          refine lv_iconst (v := 3) hx hb dL_makes_106 (by decide) ?_
          refine lv_ishr hx hb dL_makes_107 ?_
          refine lv_iload_n hx hb dL_makes_108 rfl (lv_at hl 3 rfl) ?_
          refine lv_iconst (v := 1) hx hb dL_makes_109 (by decide) ?_
          refine nsub hx hb n 1 dL_makes_110 rfl (by decide) (by omega) ?_
          refine gcS (As := [.int ((atV LL xs (7 + k)) >>> (3 &&& 31)), .int (nI (n - 1))]) (3 * k + 12) S G (k_some l cs hF hY hlt ν ((atV LL xs (7 + k)) >>> (3 &&& 31)) (nI (n - 1)) (by first | assumption | omega | decide)) cks_yL_some ml_RL_165 hP hS hl.1 ⟨by decide, by decide⟩ rfl (by rfl) (Nat.le_of_ble_eq_true rfl) ⟨by omega, (by show _ ≤ 50; omega), (by show _ ≤ 6 * 50; omega)⟩ dL_makes_111 (fun r_61 ν_62 H locs hq_63 hP hS => ?_)
          obtain ⟨hq_63a, hq_63b⟩ := hq_63; subst r_61; subst ν_62
          obtain ⟨t2, et2, lt2⟩ := smX (x := (atV LL xs (7 + k)) >>> (3 &&& 31)) (N := (n - 1)) (by omega) (by omega)
          refine lv_tope (y := nI t2) et2 ?_
          refine nadd hx hb (p1 + 1) t2 dL_makes_114 rfl rfl ?_
          refine lv_iload_n hx hb dL_makes_115 rfl (lv_at hl 3 rfl) ?_
          refine nrem hx hb ((p1 + 1) + t2) n dL_makes_116 rfl rfl (by omega) (by omega) (by omega) ?_
          refine lv_iload hx hb dL_makes_117 (lv_at hl 1 rfl) ?_
          refine lv_bipush (v := 6) hx hb dL_makes_119 (by decide) ?_
          refine lv_ishr hx hb dL_makes_121 ?_
          refine lv_bipush (v := 10) hx hb dL_makes_122 (by decide) ?_
          refine gcS (As := [.int ((atV LL xs (7 + k)) >>> (6 &&& 31)), .int 10]) (3 * k + 12) S G (k_some l cs hF hY hlt ν ((atV LL xs (7 + k)) >>> (6 &&& 31)) (10) (by first | assumption | omega | decide)) cks_yL_some ml_RL_165 hP hS hl.1 ⟨by decide, by decide⟩ rfl (by rfl) (Nat.le_of_ble_eq_true rfl) ⟨by omega, (by show _ ≤ 50; omega), (by show _ ≤ 6 * 50; omega)⟩ dL_makes_124 (fun r_64 ν_65 H locs hq_66 hP hS => ?_)
          obtain ⟨hq_66a, hq_66b⟩ := hq_66; subst r_64; subst ν_65
          obtain ⟨w1, ew1, lw1⟩ := smX (x := (atV LL xs (7 + k)) >>> (6 &&& 31)) (N := 10) (by decide) (by decide)
          have hmd := md_n lp1 lt2
          refine lv_tope (y := nI w1) ew1 ?_
          refine gcH (As := [.ref (ad 0), .int (nI p1), .int (nI (((p1 + 1) + t2) % n)), .int (nI w1)]) (3 * k + 14) S G (g_friends l cs hF hY hlt ν (nI p1) (nI (((p1 + 1) + t2) % n)) (nI w1)) ckh_friends ml_RL_171 hP hS hl.1 ⟨by decide, by decide⟩ rfl (by rfl) (Nat.le_of_ble_eq_true rfl) ⟨by omega, (by show _ ≤ 50; omega), (by show _ ≤ 6 * 50; omega)⟩ dL_makes_127 (fun r_67 ν_68 H locs hq_69 hP hS => ?_)
          obtain ⟨hq_69a, hq_69b⟩ := hq_69
          obtain ⟨hI1, h5⟩ := mk_fri Ck hν lp1 hmd.1 hmd.2 lw1 hq_69a hq_69b
          refine lv_istore (lv' := [(6, .int r_67), (5, .int (nI p1)), (4, .int (atV LL xs (7 + k))), (3, .int (nI k)), (2, .int (nI n)), (0, .ref (ad 0)), (1, .ref b)]) hx hb dL_makes_130 hl (by decide) rfl (fun ls hl => ?_)
          refine lv_iload hx hb dL_makes_132 (lv_at hl 0 rfl) ?_
          refine lv_sipush (v := (-1001)) hx hb dL_makes_134 (by decide) ?_
          refine lv_icmp_ne (tgt := 151) hx hb dL_makes_137 (by decide) (fun c_137 => ?_) (fun c_137 => ?_)
          · refine lv_iinc (v := nI (k + 1)) (lv' := [(3, .int (nI (k + 1))), (6, .int r_67), (5, .int (nI p1)), (4, .int (atV LL xs (7 + k))), (2, .int (nI n)), (0, .ref (ad 0)), (1, .ref b)]) hx hb dL_makes_151 hl (k := 3) rfl (nI_inc _) (by decide) rfl (fun ls hl => ?_)
            refine lv_goto (tgt := 73) hx hb dL_makes_154 (by decide) ?_
            refine W.widen (k := (3 * (k + 1) + 12)) (n := 6 * (3 * (k + 1) + 12)) (by omega) (by omega) ?_
            exact ih (k + 1) (by omega) _ (by assumption) _ _ _ hP hS (lv_v (lv_sub (l' := [(3, .int (nI (k + 1))), (2, .int (nI n)), (0, .ref (ad 0)), (1, .ref b)]) hl [0, 4, 5, 6] rfl) rfl)
          · refine lv_aload_n hx hb dL_makes_140 rfl (lv_at hl 5 rfl) ?_
            refine lv_iconst (v := 0) hx hb dL_makes_141 (by decide) ?_
            refine gcH (As := [.ref (ad 0), .int 0]) (3 * k + 15) S G (g_reason l cs hF hY hlt ν_68 (0)) ckh_reason ml_RL_156 hP hS hl.1 ⟨by decide, by decide⟩ rfl (by rfl) (Nat.le_of_ble_eq_true rfl) ⟨by omega, (by show _ ≤ 50; omega), (by show _ ≤ 6 * 50; omega)⟩ dL_makes_142 (fun r_70 ν_71 H locs hq_72 hP hS => ?_)
            obtain ⟨hq_72a, hq_72b⟩ := hq_72; subst r_70; subst ν_71
            refine lv_tope (y := 5) (h5 c_137) ?_
            refine lv_iconst (v := 5) hx hb dL_makes_145 (by decide) ?_
            refine lv_icmp_eq (tgt := 151) hx hb dL_makes_146 (by decide) (fun c_146 => ?_) (fun c_146 => absurd rfl c_146)
            refine lv_iinc (v := nI (k + 1)) (lv' := [(3, .int (nI (k + 1))), (6, .int r_67), (5, .int (nI p1)), (4, .int (atV LL xs (7 + k))), (2, .int (nI n)), (0, .ref (ad 0)), (1, .ref b)]) hx hb dL_makes_151 hl (k := 3) rfl (nI_inc _) (by decide) rfl (fun ls hl => ?_)
            refine lv_goto (tgt := 73) hx hb dL_makes_154 (by decide) ?_
            refine W.widen (k := (3 * (k + 1) + 12)) (n := 6 * (3 * (k + 1) + 12)) (by omega) (by omega) ?_
            exact ih (k + 1) (by omega) _ (by assumption) _ _ _ hP hS (lv_v (lv_sub (l' := [(3, .int (nI (k + 1))), (2, .int (nI n)), (0, .ref (ad 0)), (1, .ref b)]) hl [0, 4, 5, 6] rfl) rfl)
      refine W.widen (k := (3 * 0 + 12)) (n := 6 * (3 * 0 + 12)) (by omega) (by omega) ?_
      exact key_73 7 0 (by omega) _ (by assumption) _ _ _ hP hS (lv_sub hl [0, 1, 2, 3] rfl)
    | succ d ih =>
      intro k hk ν hν H locs ls hP hS hl
      have hkn : k < n := by omega
      obtain ⟨σk, -, Ck⟩ := id hP
      refine lv_iload_n hx hb dL_makes_14 rfl (lv_at hl 0 rfl) ?_
      refine lv_iload_n hx hb dL_makes_15 rfl (lv_at hl 1 rfl) ?_
      refine lv_icmp_ge (tgt := 71) hx hb dL_makes_16 (by decide) (fun c_16 => absurd c_16 (nI_ge (by omega) (by omega))) (fun c_16 => ?_)
      refine lv_aload_n hx hb dL_makes_19 rfl (lv_at hl 2 rfl) ?_
      refine lv_aload_n hx hb dL_makes_20 rfl (lv_at hl 3 rfl) ?_
      refine lv_iconst (v := 1) hx hb dL_makes_21 (by decide) ?_
      refine lv_iload_n hx hb dL_makes_22 rfl (lv_at hl 0 rfl) ?_
      refine nadd hx hb 1 k dL_makes_23 (by decide) rfl ?_
      refine gcS (As := [.ref b, .int (nI (1 + k))]) (2 * k + 0) S G (k_at l cs hF hY hlt ν b LL xs (by first | assumption | omega | decide) (by first | assumption | omega | decide) (1 + k) (by first | assumption | omega | decide)) cks_yL_at ml_RL_161 hP hS hl.1 ⟨by decide, by decide⟩ rfl (by rfl) (Nat.le_of_ble_eq_true rfl) ⟨by omega, (by show _ ≤ 50; omega), (by show _ ≤ 6 * 50; omega)⟩ dL_makes_24 (fun r_73 ν_74 H locs hq_75 hP hS => ?_)
      obtain ⟨hq_75a, hq_75b⟩ := hq_75; subst r_73; subst ν_74
      refine lv_bipush (v := 41) hx hb dL_makes_27 (by decide) ?_
      refine gcS (As := [.int (atV LL xs (1 + k)), .int 41]) (2 * k + 0) S G (k_some l cs hF hY hlt ν (atV LL xs (1 + k)) (41) (by first | assumption | omega | decide)) cks_yL_some ml_RL_165 hP hS hl.1 ⟨by decide, by decide⟩ rfl (by rfl) (Nat.le_of_ble_eq_true rfl) ⟨by omega, (by show _ ≤ 50; omega), (by show _ ≤ 6 * 50; omega)⟩ dL_makes_29 (fun r_76 ν_77 H locs hq_78 hP hS => ?_)
      obtain ⟨hq_78a, hq_78b⟩ := hq_78; subst r_76; subst ν_77
      obtain ⟨t1, et1, lt1⟩ := smX (x := atV LL xs (1 + k)) (N := 41) (by decide) (by decide)
      refine lv_tope (y := nI t1) et1 ?_
      refine lv_bipush (v := 20) hx hb dL_makes_32 (by decide) ?_
      refine lv_isub hx hb dL_makes_34 ?_
      refine lv_aload_n hx hb dL_makes_35 rfl (lv_at hl 3 rfl) ?_
      refine lv_iconst (v := 1) hx hb dL_makes_36 (by decide) ?_
      refine lv_iload_n hx hb dL_makes_37 rfl (lv_at hl 0 rfl) ?_
      refine nadd hx hb 1 k dL_makes_38 (by decide) rfl ?_
      refine gcS (As := [.ref b, .int (nI (1 + k))]) (2 * k + 0) S G (k_at l cs hF hY hlt ν b LL xs (by first | assumption | omega | decide) (by first | assumption | omega | decide) (1 + k) (by first | assumption | omega | decide)) cks_yL_at ml_RL_161 hP hS hl.1 ⟨by decide, by decide⟩ rfl (by rfl) (Nat.le_of_ble_eq_true rfl) ⟨by omega, (by show _ ≤ 50; omega), (by show _ ≤ 6 * 50; omega)⟩ dL_makes_39 (fun r_79 ν_80 H locs hq_81 hP hS => ?_)
      obtain ⟨hq_81a, hq_81b⟩ := hq_81; subst r_79; subst ν_80
      refine lv_bipush (v := 7) hx hb dL_makes_42 (by decide) ?_
      refine lv_ishr hx hb dL_makes_44 ?_
      refine lv_iconst (v := 1) hx hb dL_makes_45 (by decide) ?_
      refine lv_iand hx hb dL_makes_46 ?_
      refine lv_iconst (v := 1) hx hb dL_makes_47 (by decide) ?_
      refine lv_icmp_ne (tgt := 55) hx hb dL_makes_48 (by decide) (fun c_48 => ?_) (fun c_48 => ?_)
      · refine lv_iconst (v := 0) hx hb dL_makes_55 (by decide) ?_
        refine gcH (As := [.ref (ad 0), .int ((nI t1) - 20), .int 0]) (2 * k + 2) S G (g_person l cs hF hY hlt ν ((nI t1) - 20) (0)) ckh_person ml_RL_168 hP hS hl.1 ⟨by decide, by decide⟩ rfl (by rfl) (Nat.le_of_ble_eq_true rfl) ⟨by omega, (by show _ ≤ 50; omega), (by show _ ≤ 6 * 50; omega)⟩ dL_makes_56 (fun r_82 ν_83 H locs hq_84 hP hS => ?_)
        obtain ⟨hq_84a, hq_84b⟩ := hq_84
        obtain ⟨er, hI1⟩ := mk_per Ck hν (by omega) lt1 hq_84a hq_84b
        refine lv_tope (y := nI k) er ?_
        refine lv_iload_n hx hb dL_makes_59 rfl (lv_at hl 0 rfl) ?_
        refine lv_icmp_eq (tgt := 65) hx hb dL_makes_60 (by decide) (fun c_60 => ?_) (fun c_60 => absurd rfl c_60)
        refine lv_iinc (v := nI (k + 1)) (lv' := [(3, .int (nI (k + 1))), (2, .int (nI n)), (0, .ref (ad 0)), (1, .ref b)]) hx hb dL_makes_65 hl (k := 0) rfl (nI_inc _) (by decide) rfl (fun ls hl => ?_)
        refine lv_goto (tgt := 14) hx hb dL_makes_68 (by decide) ?_
        refine W.widen (k := (2 * (k + 1) + 0)) (n := 6 * (2 * (k + 1) + 0)) (by omega) (by omega) ?_
        exact ih (k + 1) (by omega) _ (by assumption) _ _ _ hP hS (lv_v (lv_sub (l' := [(3, .int (nI (k + 1))), (2, .int (nI n)), (0, .ref (ad 0)), (1, .ref b)]) hl [0, 1, 2, 3] rfl) rfl)
      · refine lv_iconst (v := 1) hx hb dL_makes_51 (by decide) ?_
        refine lv_goto (tgt := 56) hx hb dL_makes_52 (by decide) ?_
        refine gcH (As := [.ref (ad 0), .int ((nI t1) - 20), .int 1]) (2 * k + 2) S G (g_person l cs hF hY hlt ν ((nI t1) - 20) (1)) ckh_person ml_RL_168 hP hS hl.1 ⟨by decide, by decide⟩ rfl (by rfl) (Nat.le_of_ble_eq_true rfl) ⟨by omega, (by show _ ≤ 50; omega), (by show _ ≤ 6 * 50; omega)⟩ dL_makes_56 (fun r_85 ν_86 H locs hq_87 hP hS => ?_)
        obtain ⟨hq_87a, hq_87b⟩ := hq_87
        obtain ⟨er, hI1⟩ := mk_per Ck hν (by omega) lt1 hq_87a hq_87b
        refine lv_tope (y := nI k) er ?_
        refine lv_iload_n hx hb dL_makes_59 rfl (lv_at hl 0 rfl) ?_
        refine lv_icmp_eq (tgt := 65) hx hb dL_makes_60 (by decide) (fun c_60 => ?_) (fun c_60 => absurd rfl c_60)
        refine lv_iinc (v := nI (k + 1)) (lv' := [(3, .int (nI (k + 1))), (2, .int (nI n)), (0, .ref (ad 0)), (1, .ref b)]) hx hb dL_makes_65 hl (k := 0) rfl (nI_inc _) (by decide) rfl (fun ls hl => ?_)
        refine lv_goto (tgt := 14) hx hb dL_makes_68 (by decide) ?_
        refine W.widen (k := (2 * (k + 1) + 0)) (n := 6 * (2 * (k + 1) + 0)) (by omega) (by omega) ?_
        exact ih (k + 1) (by omega) _ (by assumption) _ _ _ hP hS (lv_v (lv_sub (l' := [(3, .int (nI (k + 1))), (2, .int (nI n)), (0, .ref (ad 0)), (1, .ref b)]) hl [0, 1, 2, 3] rfl) rfl)
  refine W.widen (k := (2 * 0 + 0)) (n := 6 * (2 * 0 + 0)) (by omega) (by omega) ?_
  exact key_14 n 0 (by omega) _ (by assumption) _ _ _ hP hS (lv_sub hl [0, 1, 2, 3] rfl)

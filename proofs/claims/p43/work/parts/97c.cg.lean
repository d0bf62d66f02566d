/-! one change of the law's (laid by wip/p43/spec_changes.py) -/
theorem cks_yL_changes : CKS yL_changes cL_changes 5 (some .boolean) 2 := ⟨sm_yL_changes, in_RL, co_yL_changes, ⟨by decide +kernel, by decide +kernel, by decide +kernel⟩, by decide⟩
set_option maxHeartbeats 40000000 in
set_option maxRecDepth 100000 in
theorem k_changes (l : Launch) {D : va_G} {ct : Nat → ClassId} {ek ad : Nat → Nat} {N0 : Nat} {X : va_W} {F : State → Prop} (cs : Nat → Nat) (hF : ∀ U, F U → FX ek cs N0 U) (hY : ∀ U, F U → FY U) (hlt : l.stackTraces = false) (μ : Mem) (dg : Nat) (hZ : ∀ U, F U → SBF dg N0 U) (hCX : ∀ U, F U → CX ct U) (x : Int32) (hL0 : gL μ = 0) :
    MG l yL_changes (.code yL_changes cL_changes 5 (some .boolean)) 10 90 D ct ek ad N0 X F [.ref (ad 0), .int x] μ (gQi D ct ek ad N0 X (fun r ν => (r = 1 ∧ ChOK ν μ) ∨ (r = 0 ∧ CoE ν μ))) := by
  refine msG (own := RL) (by decide) rfl (Nat.le_of_ble_eq_true rfl) (fun p e s m args below meth c S hr hlocks G hP hS ls hl => ?_)
  have hx := S.1
  have hb := S.2.1
  replace hl : lv_has ls 5 [(0, .ref (ad 0)), (1, .int x)] := hl
  obtain ⟨σ0, -, C0⟩ := id hP
  have W0 := C0.gw
  have hn6 : gn μ ≤ 6 := W0.1.2.1
  have hm6 : gm μ ≤ 6 := W0.1.2.2.2.1
  have hn1 : ¬ nI (gn μ + 1) = 0 := nI_ne0 (by omega) (by omega)
  have hm1 : ¬ nI (gm μ + 1) = 0 := nI_ne0 (by omega) (by omega)
  have FC := hF s G.2.2.2.2.2
  have X0 := G.x hCX
  have hL1 : μ 276 11 = 0 := by rw [C0.gt.2.2.1, hL0]; rfl
  refine lv_aload_n hx hb dL_changes_0 rfl (lv_at hl 0 rfl) ?_
  refine lv_iconst (v := 0) hx hb dL_changes_1 (by decide) ?_
  refine gcH (As := [.ref (ad 0), .int 0]) 1 S G (g_account l cs hF hY hlt μ (0)) ckh_account ml_RL_201 hP hS hl.1 ⟨by decide, by decide⟩ rfl (by rfl) (Nat.le_of_ble_eq_true rfl) ⟨by omega, (by show _ ≤ 90; omega), (by show _ ≤ 6 * 90; omega)⟩ dL_changes_2 (fun r_1 ν_2 H locs hq_3 hP hS => ?_)
  obtain ⟨hq_3a, hq_3b⟩ := hq_3; subst r_1; subst ν_2
  refine lv_tope (y := nI (gn μ)) (acc0 W0) ?_
  refine lv_istore_n (lv' := [(2, .int (nI (gn μ))), (0, .ref (ad 0)), (1, .int x)]) hx hb dL_changes_5 rfl hl (by decide) rfl (fun ls hl => ?_)
  refine lv_iload_n hx hb dL_changes_6 rfl (lv_at hl 2 rfl) ?_
  refine lv_iconst (v := 4) hx hb dL_changes_7 (by decide) ?_
  refine lv_ishr hx hb dL_changes_8 ?_
  refine lv_iload_n hx hb dL_changes_9 rfl (lv_at hl 0 rfl) ?_
  refine lv_iconst (v := 1) hx hb dL_changes_10 (by decide) ?_
  refine nadd hx hb (gn μ) 1 dL_changes_11 rfl (by decide) ?_
  refine gcS (As := [.int (x >>> (4 &&& 31)), .int (nI ((gn μ) + 1))]) 1 S G (k_some l cs hF hY hlt μ (x >>> (4 &&& 31)) (nI ((gn μ) + 1)) (by first | assumption | omega | decide)) cks_yL_some ml_RL_165 hP hS hl.1 ⟨by decide, by decide⟩ rfl (by rfl) (Nat.le_of_ble_eq_true rfl) ⟨by omega, (by show _ ≤ 90; omega), (by show _ ≤ 6 * 90; omega)⟩ dL_changes_12 (fun r_4 ν_5 H locs hq_6 hP hS => ?_)
  obtain ⟨hq_6a, hq_6b⟩ := hq_6; subst r_4; subst ν_5
  refine lv_istore_n (lv' := [(3, .int (smV (x >>> (4 &&& 31)) (nI ((gn μ) + 1)))), (2, .int (nI (gn μ))), (0, .ref (ad 0)), (1, .int x)]) hx hb dL_changes_15 rfl hl (by decide) rfl (fun ls hl => ?_)
  refine lv_iload_n hx hb dL_changes_16 rfl (lv_at hl 3 rfl) ?_
  refine lv_bipush (v := 7) hx hb dL_changes_17 (by decide) ?_
  refine lv_ishr hx hb dL_changes_19 ?_
  refine lv_iload_n hx hb dL_changes_20 rfl (lv_at hl 1 rfl) ?_
  refine lv_iconst (v := 1) hx hb dL_changes_21 (by decide) ?_
  refine nadd hx hb (gn μ) 1 dL_changes_22 rfl (by decide) ?_
  refine gcS (As := [.int (x >>> (7 &&& 31)), .int (nI ((gn μ) + 1))]) 1 S G (k_some l cs hF hY hlt μ (x >>> (7 &&& 31)) (nI ((gn μ) + 1)) (by first | assumption | omega | decide)) cks_yL_some ml_RL_165 hP hS hl.1 ⟨by decide, by decide⟩ rfl (by rfl) (Nat.le_of_ble_eq_true rfl) ⟨by omega, (by show _ ≤ 90; omega), (by show _ ≤ 6 * 90; omega)⟩ dL_changes_23 (fun r_7 ν_8 H locs hq_9 hP hS => ?_)
  obtain ⟨hq_9a, hq_9b⟩ := hq_9; subst r_7; subst ν_8
  refine lv_istore (lv' := [(4, .int (smV (x >>> (7 &&& 31)) (nI ((gn μ) + 1)))), (3, .int (smV (x >>> (4 &&& 31)) (nI ((gn μ) + 1)))), (2, .int (nI (gn μ))), (0, .ref (ad 0)), (1, .int x)]) hx hb dL_changes_26 hl (by decide) rfl (fun ls hl => ?_)
  refine lv_iload_n hx hb dL_changes_28 rfl (lv_at hl 4 rfl) ?_
  refine lv_bipush (v := 22) hx hb dL_changes_29 (by decide) ?_
  refine gcS (As := [.int x, .int 22]) 1 S G (k_some l cs hF hY hlt μ x (22) (by first | assumption | omega | decide)) cks_yL_some ml_RL_165 hP hS hl.1 ⟨by decide, by decide⟩ rfl (by rfl) (Nat.le_of_ble_eq_true rfl) ⟨by omega, (by show _ ≤ 90; omega), (by show _ ≤ 6 * 90; omega)⟩ dL_changes_31 (fun r_10 ν_11 H locs hq_12 hP hS => ?_)
  obtain ⟨hq_12a, hq_12b⟩ := hq_12; subst r_10; subst ν_11
  by_cases c_34_0 : smV x (22) = 0
  · refine lv_tableIn (off := 82) (tgt := 116) hx hb dL_changes_34 (by rw [c_34_0]; decide) (by rw [c_34_0]; decide) (by rw [c_34_0]; rfl) (by decide) ?_
    refine lv_aload_n hx hb dL_changes_116 rfl (lv_at hl 3 rfl) ?_
    refine lv_iload_n hx hb dL_changes_117 rfl (lv_at hl 4 rfl) ?_
    refine lv_iconst (v := 4) hx hb dL_changes_118 (by decide) ?_
    refine lv_ishr hx hb dL_changes_119 ?_
    refine lv_bipush (v := 43) hx hb dL_changes_120 (by decide) ?_
    refine gcS (As := [.int (x >>> (4 &&& 31)), .int 43]) 1 S G (k_some l cs hF hY hlt μ (x >>> (4 &&& 31)) (43) (by first | assumption | omega | decide)) cks_yL_some ml_RL_165 hP hS hl.1 ⟨by decide, by decide⟩ rfl (by rfl) (Nat.le_of_ble_eq_true rfl) ⟨by omega, (by show _ ≤ 90; omega), (by show _ ≤ 6 * 90; omega)⟩ dL_changes_122 (fun r_13 ν_14 H locs hq_15 hP hS => ?_)
    obtain ⟨hq_15a, hq_15b⟩ := hq_15; subst r_13; subst ν_14
    refine lv_bipush (v := 21) hx hb dL_changes_125 (by decide) ?_
    refine lv_isub hx hb dL_changes_127 ?_
    refine lv_iload_n hx hb dL_changes_128 rfl (lv_at hl 4 rfl) ?_
    refine lv_bipush (v := 64) hx hb dL_changes_129 (by decide) ?_
    refine lv_iand hx hb dL_changes_131 ?_
    refine lv_if_ne (tgt := 139) hx hb dL_changes_132 (by decide) (fun c_132 => ?_) (fun c_132 => ?_)
    · refine lv_iconst (v := 0) hx hb dL_changes_139 (by decide) ?_
      refine gcH (As := [.ref (ad 0), .int ((smV (x >>> (4 &&& 31)) (43)) - 21), .int 0]) 3 S G (g_person l cs hF hY hlt μ ((smV (x >>> (4 &&& 31)) (43)) - 21) (0)) ckh_person ml_RL_168 hP hS hl.1 ⟨by decide, by decide⟩ rfl (by rfl) (Nat.le_of_ble_eq_true rfl) ⟨by omega, (by show _ ≤ 90; omega), (by show _ ≤ 6 * 90; omega)⟩ dL_changes_140 (fun r_16 ν_17 H locs hq_18 hP hS => ?_)
      obtain ⟨hq_18a, hq_18b⟩ := hq_18; subst r_16; subst ν_17
      refine lv_sipush (v := (-1001)) hx hb dL_changes_143 (by decide) ?_
      refine lv_icmp_eq (tgt := 153) hx hb dL_changes_146 (by decide) (fun c_146 => ?_) (fun c_146 => ?_)
      · refine lv_iconst (v := 0) hx hb dL_changes_153 (by decide) ?_
        exact eGz S hr hlocks hP hS ⟨by omega, by omega⟩ (by decide) dL_changes_154 (Or.inr ⟨rfl, ch_0 C0 c_146⟩)
      · refine lv_iconst (v := 1) hx hb dL_changes_149 (by decide) ?_
        refine lv_goto (tgt := 154) hx hb dL_changes_150 (by decide) ?_
        exact eGz S hr hlocks hP hS ⟨by omega, by omega⟩ (by decide) dL_changes_154 (Or.inl ⟨rfl, ch_1 C0 hL0 c_146⟩)
    · refine lv_iconst (v := 1) hx hb dL_changes_135 (by decide) ?_
      refine lv_goto (tgt := 140) hx hb dL_changes_136 (by decide) ?_
      refine gcH (As := [.ref (ad 0), .int ((smV (x >>> (4 &&& 31)) (43)) - 21), .int 1]) 3 S G (g_person l cs hF hY hlt μ ((smV (x >>> (4 &&& 31)) (43)) - 21) (1)) ckh_person ml_RL_168 hP hS hl.1 ⟨by decide, by decide⟩ rfl (by rfl) (Nat.le_of_ble_eq_true rfl) ⟨by omega, (by show _ ≤ 90; omega), (by show _ ≤ 6 * 90; omega)⟩ dL_changes_140 (fun r_19 ν_20 H locs hq_21 hP hS => ?_)
      obtain ⟨hq_21a, hq_21b⟩ := hq_21; subst r_19; subst ν_20
      refine lv_sipush (v := (-1001)) hx hb dL_changes_143 (by decide) ?_
      refine lv_icmp_eq (tgt := 153) hx hb dL_changes_146 (by decide) (fun c_146 => ?_) (fun c_146 => ?_)
      · refine lv_iconst (v := 0) hx hb dL_changes_153 (by decide) ?_
        exact eGz S hr hlocks hP hS ⟨by omega, by omega⟩ (by decide) dL_changes_154 (Or.inr ⟨rfl, ch_0 C0 c_146⟩)
      · refine lv_iconst (v := 1) hx hb dL_changes_149 (by decide) ?_
        refine lv_goto (tgt := 154) hx hb dL_changes_150 (by decide) ?_
        exact eGz S hr hlocks hP hS ⟨by omega, by omega⟩ (by decide) dL_changes_154 (Or.inl ⟨rfl, ch_1 C0 hL0 c_146⟩)
  by_cases c_34_1 : smV x (22) = 1
  · refine lv_tableIn (off := 121) (tgt := 155) hx hb dL_changes_34 (by rw [c_34_1]; decide) (by rw [c_34_1]; decide) (by rw [c_34_1]; rfl) (by decide) ?_
    refine lv_aload_n hx hb dL_changes_155 rfl (lv_at hl 3 rfl) ?_
    refine lv_iload_n hx hb dL_changes_156 rfl (lv_at hl 1 rfl) ?_
    refine lv_iload hx hb dL_changes_157 (lv_at hl 0 rfl) ?_
    refine lv_iload_n hx hb dL_changes_159 rfl (lv_at hl 4 rfl) ?_
    refine lv_bipush (v := 10) hx hb dL_changes_160 (by decide) ?_
    refine lv_ishr hx hb dL_changes_162 ?_
    refine lv_bipush (v := 11) hx hb dL_changes_163 (by decide) ?_
    refine gcS (As := [.int (x >>> (10 &&& 31)), .int 11]) 1 S G (k_some l cs hF hY hlt μ (x >>> (10 &&& 31)) (11) (by first | assumption | omega | decide)) cks_yL_some ml_RL_165 hP hS hl.1 ⟨by decide, by decide⟩ rfl (by rfl) (Nat.le_of_ble_eq_true rfl) ⟨by omega, (by show _ ≤ 90; omega), (by show _ ≤ 6 * 90; omega)⟩ dL_changes_165 (fun r_22 ν_23 H locs hq_24 hP hS => ?_)
    obtain ⟨hq_24a, hq_24b⟩ := hq_24; subst r_22; subst ν_23
    refine gcH (As := [.ref (ad 0), .int (smV (x >>> (4 &&& 31)) (nI ((gn μ) + 1))), .int (smV (x >>> (7 &&& 31)) (nI ((gn μ) + 1))), .int (smV (x >>> (10 &&& 31)) (11))]) 3 S G (g_friends l cs hF hY hlt μ (smV (x >>> (4 &&& 31)) (nI ((gn μ) + 1))) (smV (x >>> (7 &&& 31)) (nI ((gn μ) + 1))) (smV (x >>> (10 &&& 31)) (11))) ckh_friends ml_RL_171 hP hS hl.1 ⟨by decide, by decide⟩ rfl (by rfl) (Nat.le_of_ble_eq_true rfl) ⟨by omega, (by show _ ≤ 90; omega), (by show _ ≤ 6 * 90; omega)⟩ dL_changes_168 (fun r_25 ν_26 H locs hq_27 hP hS => ?_)
    obtain ⟨hq_27a, hq_27b⟩ := hq_27; subst r_25; subst ν_26
    refine lv_sipush (v := (-1001)) hx hb dL_changes_171 (by decide) ?_
    refine lv_icmp_eq (tgt := 181) hx hb dL_changes_174 (by decide) (fun c_174 => ?_) (fun c_174 => ?_)
    · refine lv_iconst (v := 0) hx hb dL_changes_181 (by decide) ?_
      exact eGz S hr hlocks hP hS ⟨by omega, by omega⟩ (by decide) dL_changes_182 (Or.inr ⟨rfl, ch_0 C0 c_174⟩)
    · refine lv_iconst (v := 1) hx hb dL_changes_177 (by decide) ?_
      refine lv_goto (tgt := 182) hx hb dL_changes_178 (by decide) ?_
      exact eGz S hr hlocks hP hS ⟨by omega, by omega⟩ (by decide) dL_changes_182 (Or.inl ⟨rfl, ch_1 C0 hL0 c_174⟩)
  by_cases c_34_2 : smV x (22) = 2
  · refine lv_tableIn (off := 121) (tgt := 155) hx hb dL_changes_34 (by rw [c_34_2]; decide) (by rw [c_34_2]; decide) (by rw [c_34_2]; rfl) (by decide) ?_
    refine lv_aload_n hx hb dL_changes_155 rfl (lv_at hl 3 rfl) ?_
    refine lv_iload_n hx hb dL_changes_156 rfl (lv_at hl 1 rfl) ?_
    refine lv_iload hx hb dL_changes_157 (lv_at hl 0 rfl) ?_
    refine lv_iload_n hx hb dL_changes_159 rfl (lv_at hl 4 rfl) ?_
    refine lv_bipush (v := 10) hx hb dL_changes_160 (by decide) ?_
    refine lv_ishr hx hb dL_changes_162 ?_
    refine lv_bipush (v := 11) hx hb dL_changes_163 (by decide) ?_
    refine gcS (As := [.int (x >>> (10 &&& 31)), .int 11]) 1 S G (k_some l cs hF hY hlt μ (x >>> (10 &&& 31)) (11) (by first | assumption | omega | decide)) cks_yL_some ml_RL_165 hP hS hl.1 ⟨by decide, by decide⟩ rfl (by rfl) (Nat.le_of_ble_eq_true rfl) ⟨by omega, (by show _ ≤ 90; omega), (by show _ ≤ 6 * 90; omega)⟩ dL_changes_165 (fun r_28 ν_29 H locs hq_30 hP hS => ?_)
    obtain ⟨hq_30a, hq_30b⟩ := hq_30; subst r_28; subst ν_29
    refine gcH (As := [.ref (ad 0), .int (smV (x >>> (4 &&& 31)) (nI ((gn μ) + 1))), .int (smV (x >>> (7 &&& 31)) (nI ((gn μ) + 1))), .int (smV (x >>> (10 &&& 31)) (11))]) 3 S G (g_friends l cs hF hY hlt μ (smV (x >>> (4 &&& 31)) (nI ((gn μ) + 1))) (smV (x >>> (7 &&& 31)) (nI ((gn μ) + 1))) (smV (x >>> (10 &&& 31)) (11))) ckh_friends ml_RL_171 hP hS hl.1 ⟨by decide, by decide⟩ rfl (by rfl) (Nat.le_of_ble_eq_true rfl) ⟨by omega, (by show _ ≤ 90; omega), (by show _ ≤ 6 * 90; omega)⟩ dL_changes_168 (fun r_31 ν_32 H locs hq_33 hP hS => ?_)
    obtain ⟨hq_33a, hq_33b⟩ := hq_33; subst r_31; subst ν_32
    refine lv_sipush (v := (-1001)) hx hb dL_changes_171 (by decide) ?_
    refine lv_icmp_eq (tgt := 181) hx hb dL_changes_174 (by decide) (fun c_174 => ?_) (fun c_174 => ?_)
    · refine lv_iconst (v := 0) hx hb dL_changes_181 (by decide) ?_
      exact eGz S hr hlocks hP hS ⟨by omega, by omega⟩ (by decide) dL_changes_182 (Or.inr ⟨rfl, ch_0 C0 c_174⟩)
    · refine lv_iconst (v := 1) hx hb dL_changes_177 (by decide) ?_
      refine lv_goto (tgt := 182) hx hb dL_changes_178 (by decide) ?_
      exact eGz S hr hlocks hP hS ⟨by omega, by omega⟩ (by decide) dL_changes_182 (Or.inl ⟨rfl, ch_1 C0 hL0 c_174⟩)
  by_cases c_34_3 : smV x (22) = 3
  · refine lv_tableIn (off := 121) (tgt := 155) hx hb dL_changes_34 (by rw [c_34_3]; decide) (by rw [c_34_3]; decide) (by rw [c_34_3]; rfl) (by decide) ?_
    refine lv_aload_n hx hb dL_changes_155 rfl (lv_at hl 3 rfl) ?_
    refine lv_iload_n hx hb dL_changes_156 rfl (lv_at hl 1 rfl) ?_
    refine lv_iload hx hb dL_changes_157 (lv_at hl 0 rfl) ?_
    refine lv_iload_n hx hb dL_changes_159 rfl (lv_at hl 4 rfl) ?_
    refine lv_bipush (v := 10) hx hb dL_changes_160 (by decide) ?_
    refine lv_ishr hx hb dL_changes_162 ?_
    refine lv_bipush (v := 11) hx hb dL_changes_163 (by decide) ?_
    refine gcS (As := [.int (x >>> (10 &&& 31)), .int 11]) 1 S G (k_some l cs hF hY hlt μ (x >>> (10 &&& 31)) (11) (by first | assumption | omega | decide)) cks_yL_some ml_RL_165 hP hS hl.1 ⟨by decide, by decide⟩ rfl (by rfl) (Nat.le_of_ble_eq_true rfl) ⟨by omega, (by show _ ≤ 90; omega), (by show _ ≤ 6 * 90; omega)⟩ dL_changes_165 (fun r_34 ν_35 H locs hq_36 hP hS => ?_)
    obtain ⟨hq_36a, hq_36b⟩ := hq_36; subst r_34; subst ν_35
    refine gcH (As := [.ref (ad 0), .int (smV (x >>> (4 &&& 31)) (nI ((gn μ) + 1))), .int (smV (x >>> (7 &&& 31)) (nI ((gn μ) + 1))), .int (smV (x >>> (10 &&& 31)) (11))]) 3 S G (g_friends l cs hF hY hlt μ (smV (x >>> (4 &&& 31)) (nI ((gn μ) + 1))) (smV (x >>> (7 &&& 31)) (nI ((gn μ) + 1))) (smV (x >>> (10 &&& 31)) (11))) ckh_friends ml_RL_171 hP hS hl.1 ⟨by decide, by decide⟩ rfl (by rfl) (Nat.le_of_ble_eq_true rfl) ⟨by omega, (by show _ ≤ 90; omega), (by show _ ≤ 6 * 90; omega)⟩ dL_changes_168 (fun r_37 ν_38 H locs hq_39 hP hS => ?_)
    obtain ⟨hq_39a, hq_39b⟩ := hq_39; subst r_37; subst ν_38
    refine lv_sipush (v := (-1001)) hx hb dL_changes_171 (by decide) ?_
    refine lv_icmp_eq (tgt := 181) hx hb dL_changes_174 (by decide) (fun c_174 => ?_) (fun c_174 => ?_)
    · refine lv_iconst (v := 0) hx hb dL_changes_181 (by decide) ?_
      exact eGz S hr hlocks hP hS ⟨by omega, by omega⟩ (by decide) dL_changes_182 (Or.inr ⟨rfl, ch_0 C0 c_174⟩)
    · refine lv_iconst (v := 1) hx hb dL_changes_177 (by decide) ?_
      refine lv_goto (tgt := 182) hx hb dL_changes_178 (by decide) ?_
      exact eGz S hr hlocks hP hS ⟨by omega, by omega⟩ (by decide) dL_changes_182 (Or.inl ⟨rfl, ch_1 C0 hL0 c_174⟩)
  by_cases c_34_4 : smV x (22) = 4
  · refine lv_tableIn (off := 121) (tgt := 155) hx hb dL_changes_34 (by rw [c_34_4]; decide) (by rw [c_34_4]; decide) (by rw [c_34_4]; rfl) (by decide) ?_
    refine lv_aload_n hx hb dL_changes_155 rfl (lv_at hl 3 rfl) ?_
    refine lv_iload_n hx hb dL_changes_156 rfl (lv_at hl 1 rfl) ?_
    refine lv_iload hx hb dL_changes_157 (lv_at hl 0 rfl) ?_
    refine lv_iload_n hx hb dL_changes_159 rfl (lv_at hl 4 rfl) ?_
    refine lv_bipush (v := 10) hx hb dL_changes_160 (by decide) ?_
    refine lv_ishr hx hb dL_changes_162 ?_
    refine lv_bipush (v := 11) hx hb dL_changes_163 (by decide) ?_
    refine gcS (As := [.int (x >>> (10 &&& 31)), .int 11]) 1 S G (k_some l cs hF hY hlt μ (x >>> (10 &&& 31)) (11) (by first | assumption | omega | decide)) cks_yL_some ml_RL_165 hP hS hl.1 ⟨by decide, by decide⟩ rfl (by rfl) (Nat.le_of_ble_eq_true rfl) ⟨by omega, (by show _ ≤ 90; omega), (by show _ ≤ 6 * 90; omega)⟩ dL_changes_165 (fun r_40 ν_41 H locs hq_42 hP hS => ?_)
    obtain ⟨hq_42a, hq_42b⟩ := hq_42; subst r_40; subst ν_41
    refine gcH (As := [.ref (ad 0), .int (smV (x >>> (4 &&& 31)) (nI ((gn μ) + 1))), .int (smV (x >>> (7 &&& 31)) (nI ((gn μ) + 1))), .int (smV (x >>> (10 &&& 31)) (11))]) 3 S G (g_friends l cs hF hY hlt μ (smV (x >>> (4 &&& 31)) (nI ((gn μ) + 1))) (smV (x >>> (7 &&& 31)) (nI ((gn μ) + 1))) (smV (x >>> (10 &&& 31)) (11))) ckh_friends ml_RL_171 hP hS hl.1 ⟨by decide, by decide⟩ rfl (by rfl) (Nat.le_of_ble_eq_true rfl) ⟨by omega, (by show _ ≤ 90; omega), (by show _ ≤ 6 * 90; omega)⟩ dL_changes_168 (fun r_43 ν_44 H locs hq_45 hP hS => ?_)
    obtain ⟨hq_45a, hq_45b⟩ := hq_45; subst r_43; subst ν_44
    refine lv_sipush (v := (-1001)) hx hb dL_changes_171 (by decide) ?_
    refine lv_icmp_eq (tgt := 181) hx hb dL_changes_174 (by decide) (fun c_174 => ?_) (fun c_174 => ?_)
    · refine lv_iconst (v := 0) hx hb dL_changes_181 (by decide) ?_
      exact eGz S hr hlocks hP hS ⟨by omega, by omega⟩ (by decide) dL_changes_182 (Or.inr ⟨rfl, ch_0 C0 c_174⟩)
    · refine lv_iconst (v := 1) hx hb dL_changes_177 (by decide) ?_
      refine lv_goto (tgt := 182) hx hb dL_changes_178 (by decide) ?_
      exact eGz S hr hlocks hP hS ⟨by omega, by omega⟩ (by decide) dL_changes_182 (Or.inl ⟨rfl, ch_1 C0 hL0 c_174⟩)
  by_cases c_34_5 : smV x (22) = 5
  · refine lv_tableIn (off := 149) (tgt := 183) hx hb dL_changes_34 (by rw [c_34_5]; decide) (by rw [c_34_5]; decide) (by rw [c_34_5]; rfl) (by decide) ?_
    refine lv_aload_n hx hb dL_changes_183 rfl (lv_at hl 3 rfl) ?_
    refine lv_iload_n hx hb dL_changes_184 rfl (lv_at hl 1 rfl) ?_
    refine lv_iload_n hx hb dL_changes_185 rfl (lv_at hl 4 rfl) ?_
    refine lv_bipush (v := 10) hx hb dL_changes_186 (by decide) ?_
    refine lv_ishr hx hb dL_changes_188 ?_
    refine lv_bipush (v := 11) hx hb dL_changes_189 (by decide) ?_
    refine gcS (As := [.int (x >>> (10 &&& 31)), .int 11]) 1 S G (k_some l cs hF hY hlt μ (x >>> (10 &&& 31)) (11) (by first | assumption | omega | decide)) cks_yL_some ml_RL_165 hP hS hl.1 ⟨by decide, by decide⟩ rfl (by rfl) (Nat.le_of_ble_eq_true rfl) ⟨by omega, (by show _ ≤ 90; omega), (by show _ ≤ 6 * 90; omega)⟩ dL_changes_191 (fun r_46 ν_47 H locs hq_48 hP hS => ?_)
    obtain ⟨hq_48a, hq_48b⟩ := hq_48; subst r_46; subst ν_47
    refine gcH (As := [.ref (ad 0), .int (smV (x >>> (4 &&& 31)) (nI ((gn μ) + 1))), .int (smV (x >>> (10 &&& 31)) (11))]) 3 S G (g_fact l cs hF hY hlt μ (smV (x >>> (4 &&& 31)) (nI ((gn μ) + 1))) (smV (x >>> (10 &&& 31)) (11))) ckh_fact ml_RL_239 hP hS hl.1 ⟨by decide, by decide⟩ rfl (by rfl) (Nat.le_of_ble_eq_true rfl) ⟨by omega, (by show _ ≤ 90; omega), (by show _ ≤ 6 * 90; omega)⟩ dL_changes_194 (fun r_49 ν_50 H locs hq_51 hP hS => ?_)
    obtain ⟨hq_51a, hq_51b⟩ := hq_51; subst r_49; subst ν_50
    refine lv_sipush (v := (-1001)) hx hb dL_changes_197 (by decide) ?_
    refine lv_icmp_eq (tgt := 207) hx hb dL_changes_200 (by decide) (fun c_200 => ?_) (fun c_200 => ?_)
    · refine lv_iconst (v := 0) hx hb dL_changes_207 (by decide) ?_
      exact eGz S hr hlocks hP hS ⟨by omega, by omega⟩ (by decide) dL_changes_208 (Or.inr ⟨rfl, ch_0 C0 c_200⟩)
    · refine lv_iconst (v := 1) hx hb dL_changes_203 (by decide) ?_
      refine lv_goto (tgt := 208) hx hb dL_changes_204 (by decide) ?_
      exact eGz S hr hlocks hP hS ⟨by omega, by omega⟩ (by decide) dL_changes_208 (Or.inl ⟨rfl, ch_1 C0 hL0 c_200⟩)
  by_cases c_34_6 : smV x (22) = 6
  · refine lv_tableIn (off := 149) (tgt := 183) hx hb dL_changes_34 (by rw [c_34_6]; decide) (by rw [c_34_6]; decide) (by rw [c_34_6]; rfl) (by decide) ?_
    refine lv_aload_n hx hb dL_changes_183 rfl (lv_at hl 3 rfl) ?_
    refine lv_iload_n hx hb dL_changes_184 rfl (lv_at hl 1 rfl) ?_
    refine lv_iload_n hx hb dL_changes_185 rfl (lv_at hl 4 rfl) ?_
    refine lv_bipush (v := 10) hx hb dL_changes_186 (by decide) ?_
    refine lv_ishr hx hb dL_changes_188 ?_
    refine lv_bipush (v := 11) hx hb dL_changes_189 (by decide) ?_
    refine gcS (As := [.int (x >>> (10 &&& 31)), .int 11]) 1 S G (k_some l cs hF hY hlt μ (x >>> (10 &&& 31)) (11) (by first | assumption | omega | decide)) cks_yL_some ml_RL_165 hP hS hl.1 ⟨by decide, by decide⟩ rfl (by rfl) (Nat.le_of_ble_eq_true rfl) ⟨by omega, (by show _ ≤ 90; omega), (by show _ ≤ 6 * 90; omega)⟩ dL_changes_191 (fun r_52 ν_53 H locs hq_54 hP hS => ?_)
    obtain ⟨hq_54a, hq_54b⟩ := hq_54; subst r_52; subst ν_53
    refine gcH (As := [.ref (ad 0), .int (smV (x >>> (4 &&& 31)) (nI ((gn μ) + 1))), .int (smV (x >>> (10 &&& 31)) (11))]) 3 S G (g_fact l cs hF hY hlt μ (smV (x >>> (4 &&& 31)) (nI ((gn μ) + 1))) (smV (x >>> (10 &&& 31)) (11))) ckh_fact ml_RL_239 hP hS hl.1 ⟨by decide, by decide⟩ rfl (by rfl) (Nat.le_of_ble_eq_true rfl) ⟨by omega, (by show _ ≤ 90; omega), (by show _ ≤ 6 * 90; omega)⟩ dL_changes_194 (fun r_55 ν_56 H locs hq_57 hP hS => ?_)
    obtain ⟨hq_57a, hq_57b⟩ := hq_57; subst r_55; subst ν_56
    refine lv_sipush (v := (-1001)) hx hb dL_changes_197 (by decide) ?_
    refine lv_icmp_eq (tgt := 207) hx hb dL_changes_200 (by decide) (fun c_200 => ?_) (fun c_200 => ?_)
    · refine lv_iconst (v := 0) hx hb dL_changes_207 (by decide) ?_
      exact eGz S hr hlocks hP hS ⟨by omega, by omega⟩ (by decide) dL_changes_208 (Or.inr ⟨rfl, ch_0 C0 c_200⟩)
    · refine lv_iconst (v := 1) hx hb dL_changes_203 (by decide) ?_
      refine lv_goto (tgt := 208) hx hb dL_changes_204 (by decide) ?_
      exact eGz S hr hlocks hP hS ⟨by omega, by omega⟩ (by decide) dL_changes_208 (Or.inl ⟨rfl, ch_1 C0 hL0 c_200⟩)
  by_cases c_34_7 : smV x (22) = 7
  · refine lv_tableIn (off := 149) (tgt := 183) hx hb dL_changes_34 (by rw [c_34_7]; decide) (by rw [c_34_7]; decide) (by rw [c_34_7]; rfl) (by decide) ?_
    refine lv_aload_n hx hb dL_changes_183 rfl (lv_at hl 3 rfl) ?_
    refine lv_iload_n hx hb dL_changes_184 rfl (lv_at hl 1 rfl) ?_
    refine lv_iload_n hx hb dL_changes_185 rfl (lv_at hl 4 rfl) ?_
    refine lv_bipush (v := 10) hx hb dL_changes_186 (by decide) ?_
    refine lv_ishr hx hb dL_changes_188 ?_
    refine lv_bipush (v := 11) hx hb dL_changes_189 (by decide) ?_
    refine gcS (As := [.int (x >>> (10 &&& 31)), .int 11]) 1 S G (k_some l cs hF hY hlt μ (x >>> (10 &&& 31)) (11) (by first | assumption | omega | decide)) cks_yL_some ml_RL_165 hP hS hl.1 ⟨by decide, by decide⟩ rfl (by rfl) (Nat.le_of_ble_eq_true rfl) ⟨by omega, (by show _ ≤ 90; omega), (by show _ ≤ 6 * 90; omega)⟩ dL_changes_191 (fun r_58 ν_59 H locs hq_60 hP hS => ?_)
    obtain ⟨hq_60a, hq_60b⟩ := hq_60; subst r_58; subst ν_59
    refine gcH (As := [.ref (ad 0), .int (smV (x >>> (4 &&& 31)) (nI ((gn μ) + 1))), .int (smV (x >>> (10 &&& 31)) (11))]) 3 S G (g_fact l cs hF hY hlt μ (smV (x >>> (4 &&& 31)) (nI ((gn μ) + 1))) (smV (x >>> (10 &&& 31)) (11))) ckh_fact ml_RL_239 hP hS hl.1 ⟨by decide, by decide⟩ rfl (by rfl) (Nat.le_of_ble_eq_true rfl) ⟨by omega, (by show _ ≤ 90; omega), (by show _ ≤ 6 * 90; omega)⟩ dL_changes_194 (fun r_61 ν_62 H locs hq_63 hP hS => ?_)
    obtain ⟨hq_63a, hq_63b⟩ := hq_63; subst r_61; subst ν_62
    refine lv_sipush (v := (-1001)) hx hb dL_changes_197 (by decide) ?_
    refine lv_icmp_eq (tgt := 207) hx hb dL_changes_200 (by decide) (fun c_200 => ?_) (fun c_200 => ?_)
    · refine lv_iconst (v := 0) hx hb dL_changes_207 (by decide) ?_
      exact eGz S hr hlocks hP hS ⟨by omega, by omega⟩ (by decide) dL_changes_208 (Or.inr ⟨rfl, ch_0 C0 c_200⟩)
    · refine lv_iconst (v := 1) hx hb dL_changes_203 (by decide) ?_
      refine lv_goto (tgt := 208) hx hb dL_changes_204 (by decide) ?_
      exact eGz S hr hlocks hP hS ⟨by omega, by omega⟩ (by decide) dL_changes_208 (Or.inl ⟨rfl, ch_1 C0 hL0 c_200⟩)
  by_cases c_34_8 : smV x (22) = 8
  · refine lv_tableIn (off := 175) (tgt := 209) hx hb dL_changes_34 (by rw [c_34_8]; decide) (by rw [c_34_8]; decide) (by rw [c_34_8]; rfl) (by decide) ?_
    refine lv_aload_n hx hb dL_changes_209 rfl (lv_at hl 3 rfl) ?_
    refine lv_iload_n hx hb dL_changes_210 rfl (lv_at hl 1 rfl) ?_
    refine lv_iload hx hb dL_changes_211 (lv_at hl 0 rfl) ?_
    refine lv_iload_n hx hb dL_changes_213 rfl (lv_at hl 4 rfl) ?_
    refine lv_bipush (v := 10) hx hb dL_changes_214 (by decide) ?_
    refine lv_ishr hx hb dL_changes_216 ?_
    refine lv_bipush (v := 43) hx hb dL_changes_217 (by decide) ?_
    refine gcS (As := [.int (x >>> (10 &&& 31)), .int 43]) 1 S G (k_some l cs hF hY hlt μ (x >>> (10 &&& 31)) (43) (by first | assumption | omega | decide)) cks_yL_some ml_RL_165 hP hS hl.1 ⟨by decide, by decide⟩ rfl (by rfl) (Nat.le_of_ble_eq_true rfl) ⟨by omega, (by show _ ≤ 90; omega), (by show _ ≤ 6 * 90; omega)⟩ dL_changes_219 (fun r_64 ν_65 H locs hq_66 hP hS => ?_)
    obtain ⟨hq_66a, hq_66b⟩ := hq_66; subst r_64; subst ν_65
    refine gcH (As := [.ref (ad 0), .int (smV (x >>> (4 &&& 31)) (nI ((gn μ) + 1))), .int (smV (x >>> (7 &&& 31)) (nI ((gn μ) + 1))), .int (smV (x >>> (10 &&& 31)) (43))]) 3 S G (g_beam l cs hF hY hlt μ (smV (x >>> (4 &&& 31)) (nI ((gn μ) + 1))) (smV (x >>> (7 &&& 31)) (nI ((gn μ) + 1))) (smV (x >>> (10 &&& 31)) (43))) ckh_beam ml_RL_174 hP hS hl.1 ⟨by decide, by decide⟩ rfl (by rfl) (Nat.le_of_ble_eq_true rfl) ⟨by omega, (by show _ ≤ 90; omega), (by show _ ≤ 6 * 90; omega)⟩ dL_changes_222 (fun r_67 ν_68 H locs hq_69 hP hS => ?_)
    obtain ⟨hq_69a, hq_69b⟩ := hq_69; subst r_67; subst ν_68
    refine lv_sipush (v := (-1001)) hx hb dL_changes_225 (by decide) ?_
    refine lv_icmp_eq (tgt := 235) hx hb dL_changes_228 (by decide) (fun c_228 => ?_) (fun c_228 => ?_)
    · refine lv_iconst (v := 0) hx hb dL_changes_235 (by decide) ?_
      exact eGz S hr hlocks hP hS ⟨by omega, by omega⟩ (by decide) dL_changes_236 (Or.inr ⟨rfl, ch_0 C0 c_228⟩)
    · refine lv_iconst (v := 1) hx hb dL_changes_231 (by decide) ?_
      refine lv_goto (tgt := 236) hx hb dL_changes_232 (by decide) ?_
      exact eGz S hr hlocks hP hS ⟨by omega, by omega⟩ (by decide) dL_changes_236 (Or.inl ⟨rfl, ch_1 C0 hL0 c_228⟩)
  by_cases c_34_9 : smV x (22) = 9
  · refine lv_tableIn (off := 175) (tgt := 209) hx hb dL_changes_34 (by rw [c_34_9]; decide) (by rw [c_34_9]; decide) (by rw [c_34_9]; rfl) (by decide) ?_
    refine lv_aload_n hx hb dL_changes_209 rfl (lv_at hl 3 rfl) ?_
    refine lv_iload_n hx hb dL_changes_210 rfl (lv_at hl 1 rfl) ?_
    refine lv_iload hx hb dL_changes_211 (lv_at hl 0 rfl) ?_
    refine lv_iload_n hx hb dL_changes_213 rfl (lv_at hl 4 rfl) ?_
    refine lv_bipush (v := 10) hx hb dL_changes_214 (by decide) ?_
    refine lv_ishr hx hb dL_changes_216 ?_
    refine lv_bipush (v := 43) hx hb dL_changes_217 (by decide) ?_
    refine gcS (As := [.int (x >>> (10 &&& 31)), .int 43]) 1 S G (k_some l cs hF hY hlt μ (x >>> (10 &&& 31)) (43) (by first | assumption | omega | decide)) cks_yL_some ml_RL_165 hP hS hl.1 ⟨by decide, by decide⟩ rfl (by rfl) (Nat.le_of_ble_eq_true rfl) ⟨by omega, (by show _ ≤ 90; omega), (by show _ ≤ 6 * 90; omega)⟩ dL_changes_219 (fun r_70 ν_71 H locs hq_72 hP hS => ?_)
    obtain ⟨hq_72a, hq_72b⟩ := hq_72; subst r_70; subst ν_71
    refine gcH (As := [.ref (ad 0), .int (smV (x >>> (4 &&& 31)) (nI ((gn μ) + 1))), .int (smV (x >>> (7 &&& 31)) (nI ((gn μ) + 1))), .int (smV (x >>> (10 &&& 31)) (43))]) 3 S G (g_beam l cs hF hY hlt μ (smV (x >>> (4 &&& 31)) (nI ((gn μ) + 1))) (smV (x >>> (7 &&& 31)) (nI ((gn μ) + 1))) (smV (x >>> (10 &&& 31)) (43))) ckh_beam ml_RL_174 hP hS hl.1 ⟨by decide, by decide⟩ rfl (by rfl) (Nat.le_of_ble_eq_true rfl) ⟨by omega, (by show _ ≤ 90; omega), (by show _ ≤ 6 * 90; omega)⟩ dL_changes_222 (fun r_73 ν_74 H locs hq_75 hP hS => ?_)
    obtain ⟨hq_75a, hq_75b⟩ := hq_75; subst r_73; subst ν_74
    refine lv_sipush (v := (-1001)) hx hb dL_changes_225 (by decide) ?_
    refine lv_icmp_eq (tgt := 235) hx hb dL_changes_228 (by decide) (fun c_228 => ?_) (fun c_228 => ?_)
    · refine lv_iconst (v := 0) hx hb dL_changes_235 (by decide) ?_
      exact eGz S hr hlocks hP hS ⟨by omega, by omega⟩ (by decide) dL_changes_236 (Or.inr ⟨rfl, ch_0 C0 c_228⟩)
    · refine lv_iconst (v := 1) hx hb dL_changes_231 (by decide) ?_
      refine lv_goto (tgt := 236) hx hb dL_changes_232 (by decide) ?_
      exact eGz S hr hlocks hP hS ⟨by omega, by omega⟩ (by decide) dL_changes_236 (Or.inl ⟨rfl, ch_1 C0 hL0 c_228⟩)
  by_cases c_34_10 : smV x (22) = 10
  · refine lv_tableIn (off := 175) (tgt := 209) hx hb dL_changes_34 (by rw [c_34_10]; decide) (by rw [c_34_10]; decide) (by rw [c_34_10]; rfl) (by decide) ?_
    refine lv_aload_n hx hb dL_changes_209 rfl (lv_at hl 3 rfl) ?_
    refine lv_iload_n hx hb dL_changes_210 rfl (lv_at hl 1 rfl) ?_
    refine lv_iload hx hb dL_changes_211 (lv_at hl 0 rfl) ?_
    refine lv_iload_n hx hb dL_changes_213 rfl (lv_at hl 4 rfl) ?_
    refine lv_bipush (v := 10) hx hb dL_changes_214 (by decide) ?_
    refine lv_ishr hx hb dL_changes_216 ?_
    refine lv_bipush (v := 43) hx hb dL_changes_217 (by decide) ?_
    refine gcS (As := [.int (x >>> (10 &&& 31)), .int 43]) 1 S G (k_some l cs hF hY hlt μ (x >>> (10 &&& 31)) (43) (by first | assumption | omega | decide)) cks_yL_some ml_RL_165 hP hS hl.1 ⟨by decide, by decide⟩ rfl (by rfl) (Nat.le_of_ble_eq_true rfl) ⟨by omega, (by show _ ≤ 90; omega), (by show _ ≤ 6 * 90; omega)⟩ dL_changes_219 (fun r_76 ν_77 H locs hq_78 hP hS => ?_)
    obtain ⟨hq_78a, hq_78b⟩ := hq_78; subst r_76; subst ν_77
    refine gcH (As := [.ref (ad 0), .int (smV (x >>> (4 &&& 31)) (nI ((gn μ) + 1))), .int (smV (x >>> (7 &&& 31)) (nI ((gn μ) + 1))), .int (smV (x >>> (10 &&& 31)) (43))]) 3 S G (g_beam l cs hF hY hlt μ (smV (x >>> (4 &&& 31)) (nI ((gn μ) + 1))) (smV (x >>> (7 &&& 31)) (nI ((gn μ) + 1))) (smV (x >>> (10 &&& 31)) (43))) ckh_beam ml_RL_174 hP hS hl.1 ⟨by decide, by decide⟩ rfl (by rfl) (Nat.le_of_ble_eq_true rfl) ⟨by omega, (by show _ ≤ 90; omega), (by show _ ≤ 6 * 90; omega)⟩ dL_changes_222 (fun r_79 ν_80 H locs hq_81 hP hS => ?_)
    obtain ⟨hq_81a, hq_81b⟩ := hq_81; subst r_79; subst ν_80
    refine lv_sipush (v := (-1001)) hx hb dL_changes_225 (by decide) ?_
    refine lv_icmp_eq (tgt := 235) hx hb dL_changes_228 (by decide) (fun c_228 => ?_) (fun c_228 => ?_)
    · refine lv_iconst (v := 0) hx hb dL_changes_235 (by decide) ?_
      exact eGz S hr hlocks hP hS ⟨by omega, by omega⟩ (by decide) dL_changes_236 (Or.inr ⟨rfl, ch_0 C0 c_228⟩)
    · refine lv_iconst (v := 1) hx hb dL_changes_231 (by decide) ?_
      refine lv_goto (tgt := 236) hx hb dL_changes_232 (by decide) ?_
      exact eGz S hr hlocks hP hS ⟨by omega, by omega⟩ (by decide) dL_changes_236 (Or.inl ⟨rfl, ch_1 C0 hL0 c_228⟩)
  by_cases c_34_11 : smV x (22) = 11
  · refine lv_tableIn (off := 203) (tgt := 237) hx hb dL_changes_34 (by rw [c_34_11]; decide) (by rw [c_34_11]; decide) (by rw [c_34_11]; rfl) (by decide) ?_
    refine lv_aload_n hx hb dL_changes_237 rfl (lv_at hl 3 rfl) ?_
    refine lv_iload_n hx hb dL_changes_238 rfl (lv_at hl 4 rfl) ?_
    refine lv_iconst (v := 4) hx hb dL_changes_239 (by decide) ?_
    refine lv_ishr hx hb dL_changes_240 ?_
    refine lv_aload_n hx hb dL_changes_241 rfl (lv_at hl 3 rfl) ?_
    refine lv_iconst (v := 2) hx hb dL_changes_242 (by decide) ?_
    refine gcH (As := [.ref (ad 0), .int 2]) 2 S G (g_account l cs hF hY hlt μ (2)) ckh_account ml_RL_201 hP hS hl.1 ⟨by decide, by decide⟩ rfl (by rfl) (Nat.le_of_ble_eq_true rfl) ⟨by omega, (by show _ ≤ 90; omega), (by show _ ≤ 6 * 90; omega)⟩ dL_changes_243 (fun r_82 ν_83 H locs hq_84 hP hS => ?_)
    obtain ⟨hq_84a, hq_84b⟩ := hq_84; subst r_82; subst ν_83
    refine lv_tope (y := nI (gm μ)) (acc2 W0) ?_
    refine lv_iconst (v := 1) hx hb dL_changes_246 (by decide) ?_
    refine nadd hx hb (gm μ) 1 dL_changes_247 rfl (by decide) ?_
    refine gcS (As := [.int (x >>> (4 &&& 31)), .int (nI ((gm μ) + 1))]) 2 S G (k_some l cs hF hY hlt μ (x >>> (4 &&& 31)) (nI ((gm μ) + 1)) (by first | assumption | omega | decide)) cks_yL_some ml_RL_165 hP hS hl.1 ⟨by decide, by decide⟩ rfl (by rfl) (Nat.le_of_ble_eq_true rfl) ⟨by omega, (by show _ ≤ 90; omega), (by show _ ≤ 6 * 90; omega)⟩ dL_changes_248 (fun r_85 ν_86 H locs hq_87 hP hS => ?_)
    obtain ⟨hq_87a, hq_87b⟩ := hq_87; subst r_85; subst ν_86
    refine gcH (As := [.ref (ad 0), .int (smV (x >>> (4 &&& 31)) (nI ((gm μ) + 1)))]) 4 S G (g_remove l cs hF hY hlt μ (smV (x >>> (4 &&& 31)) (nI ((gm μ) + 1)))) ckh_remove ml_RL_241 hP hS hl.1 ⟨by decide, by decide⟩ rfl (by rfl) (Nat.le_of_ble_eq_true rfl) ⟨by omega, (by show _ ≤ 90; omega), (by show _ ≤ 6 * 90; omega)⟩ dL_changes_251 (fun r_88 ν_89 H locs hq_90 hP hS => ?_)
    obtain ⟨hq_90a, hq_90b⟩ := hq_90; subst r_88; subst ν_89
    refine lv_sipush (v := (-1001)) hx hb dL_changes_254 (by decide) ?_
    refine lv_icmp_eq (tgt := 264) hx hb dL_changes_257 (by decide) (fun c_257 => ?_) (fun c_257 => ?_)
    · refine lv_iconst (v := 0) hx hb dL_changes_264 (by decide) ?_
      exact eGz S hr hlocks hP hS ⟨by omega, by omega⟩ (by decide) dL_changes_265 (Or.inr ⟨rfl, ch_0 C0 c_257⟩)
    · refine lv_iconst (v := 1) hx hb dL_changes_260 (by decide) ?_
      refine lv_goto (tgt := 265) hx hb dL_changes_261 (by decide) ?_
      exact eGz S hr hlocks hP hS ⟨by omega, by omega⟩ (by decide) dL_changes_265 (Or.inl ⟨rfl, ch_1 C0 hL0 c_257⟩)
  by_cases c_34_12 : smV x (22) = 12
  · refine lv_tableIn (off := 203) (tgt := 237) hx hb dL_changes_34 (by rw [c_34_12]; decide) (by rw [c_34_12]; decide) (by rw [c_34_12]; rfl) (by decide) ?_
    refine lv_aload_n hx hb dL_changes_237 rfl (lv_at hl 3 rfl) ?_
    refine lv_iload_n hx hb dL_changes_238 rfl (lv_at hl 4 rfl) ?_
    refine lv_iconst (v := 4) hx hb dL_changes_239 (by decide) ?_
    refine lv_ishr hx hb dL_changes_240 ?_
    refine lv_aload_n hx hb dL_changes_241 rfl (lv_at hl 3 rfl) ?_
    refine lv_iconst (v := 2) hx hb dL_changes_242 (by decide) ?_
    refine gcH (As := [.ref (ad 0), .int 2]) 2 S G (g_account l cs hF hY hlt μ (2)) ckh_account ml_RL_201 hP hS hl.1 ⟨by decide, by decide⟩ rfl (by rfl) (Nat.le_of_ble_eq_true rfl) ⟨by omega, (by show _ ≤ 90; omega), (by show _ ≤ 6 * 90; omega)⟩ dL_changes_243 (fun r_91 ν_92 H locs hq_93 hP hS => ?_)
    obtain ⟨hq_93a, hq_93b⟩ := hq_93; subst r_91; subst ν_92
    refine lv_tope (y := nI (gm μ)) (acc2 W0) ?_
    refine lv_iconst (v := 1) hx hb dL_changes_246 (by decide) ?_
    refine nadd hx hb (gm μ) 1 dL_changes_247 rfl (by decide) ?_
    refine gcS (As := [.int (x >>> (4 &&& 31)), .int (nI ((gm μ) + 1))]) 2 S G (k_some l cs hF hY hlt μ (x >>> (4 &&& 31)) (nI ((gm μ) + 1)) (by first | assumption | omega | decide)) cks_yL_some ml_RL_165 hP hS hl.1 ⟨by decide, by decide⟩ rfl (by rfl) (Nat.le_of_ble_eq_true rfl) ⟨by omega, (by show _ ≤ 90; omega), (by show _ ≤ 6 * 90; omega)⟩ dL_changes_248 (fun r_94 ν_95 H locs hq_96 hP hS => ?_)
    obtain ⟨hq_96a, hq_96b⟩ := hq_96; subst r_94; subst ν_95
    refine gcH (As := [.ref (ad 0), .int (smV (x >>> (4 &&& 31)) (nI ((gm μ) + 1)))]) 4 S G (g_remove l cs hF hY hlt μ (smV (x >>> (4 &&& 31)) (nI ((gm μ) + 1)))) ckh_remove ml_RL_241 hP hS hl.1 ⟨by decide, by decide⟩ rfl (by rfl) (Nat.le_of_ble_eq_true rfl) ⟨by omega, (by show _ ≤ 90; omega), (by show _ ≤ 6 * 90; omega)⟩ dL_changes_251 (fun r_97 ν_98 H locs hq_99 hP hS => ?_)
    obtain ⟨hq_99a, hq_99b⟩ := hq_99; subst r_97; subst ν_98
    refine lv_sipush (v := (-1001)) hx hb dL_changes_254 (by decide) ?_
    refine lv_icmp_eq (tgt := 264) hx hb dL_changes_257 (by decide) (fun c_257 => ?_) (fun c_257 => ?_)
    · refine lv_iconst (v := 0) hx hb dL_changes_264 (by decide) ?_
      exact eGz S hr hlocks hP hS ⟨by omega, by omega⟩ (by decide) dL_changes_265 (Or.inr ⟨rfl, ch_0 C0 c_257⟩)
    · refine lv_iconst (v := 1) hx hb dL_changes_260 (by decide) ?_
      refine lv_goto (tgt := 265) hx hb dL_changes_261 (by decide) ?_
      exact eGz S hr hlocks hP hS ⟨by omega, by omega⟩ (by decide) dL_changes_265 (Or.inl ⟨rfl, ch_1 C0 hL0 c_257⟩)
  by_cases c_34_13 : smV x (22) = 13
  · refine lv_tableIn (off := 232) (tgt := 266) hx hb dL_changes_34 (by rw [c_34_13]; decide) (by rw [c_34_13]; decide) (by rw [c_34_13]; rfl) (by decide) ?_
    refine lv_aload_n hx hb dL_changes_266 rfl (lv_at hl 3 rfl) ?_
    refine lv_iload_n hx hb dL_changes_267 rfl (lv_at hl 1 rfl) ?_
    refine lv_iload_n hx hb dL_changes_268 rfl (lv_at hl 4 rfl) ?_
    refine lv_bipush (v := 10) hx hb dL_changes_269 (by decide) ?_
    refine lv_ishr hx hb dL_changes_271 ?_
    refine lv_bipush (v := 11) hx hb dL_changes_272 (by decide) ?_
    refine gcS (As := [.int (x >>> (10 &&& 31)), .int 11]) 1 S G (k_some l cs hF hY hlt μ (x >>> (10 &&& 31)) (11) (by first | assumption | omega | decide)) cks_yL_some ml_RL_165 hP hS hl.1 ⟨by decide, by decide⟩ rfl (by rfl) (Nat.le_of_ble_eq_true rfl) ⟨by omega, (by show _ ≤ 90; omega), (by show _ ≤ 6 * 90; omega)⟩ dL_changes_274 (fun r_100 ν_101 H locs hq_102 hP hS => ?_)
    obtain ⟨hq_102a, hq_102b⟩ := hq_102; subst r_100; subst ν_101
    refine gcH (As := [.ref (ad 0), .int (smV (x >>> (4 &&& 31)) (nI ((gn μ) + 1))), .int (smV (x >>> (10 &&& 31)) (11))]) 3 S G (g_habit l cs hF hY hlt μ (smV (x >>> (4 &&& 31)) (nI ((gn μ) + 1))) (smV (x >>> (10 &&& 31)) (11))) ckh_habit ml_RL_176 hP hS hl.1 ⟨by decide, by decide⟩ rfl (by rfl) (Nat.le_of_ble_eq_true rfl) ⟨by omega, (by show _ ≤ 90; omega), (by show _ ≤ 6 * 90; omega)⟩ dL_changes_277 (fun r_103 ν_104 H locs hq_105 hP hS => ?_)
    obtain ⟨hq_105a, hq_105b⟩ := hq_105; subst r_103; subst ν_104
    refine lv_sipush (v := (-1001)) hx hb dL_changes_280 (by decide) ?_
    refine lv_icmp_eq (tgt := 290) hx hb dL_changes_283 (by decide) (fun c_283 => ?_) (fun c_283 => ?_)
    · refine lv_iconst (v := 0) hx hb dL_changes_290 (by decide) ?_
      exact eGz S hr hlocks hP hS ⟨by omega, by omega⟩ (by decide) dL_changes_291 (Or.inr ⟨rfl, ch_0 C0 c_283⟩)
    · refine lv_iconst (v := 1) hx hb dL_changes_286 (by decide) ?_
      refine lv_goto (tgt := 291) hx hb dL_changes_287 (by decide) ?_
      exact eGz S hr hlocks hP hS ⟨by omega, by omega⟩ (by decide) dL_changes_291 (Or.inl ⟨rfl, ch_1 C0 hL0 c_283⟩)
  by_cases c_34_14 : smV x (22) = 14
  · refine lv_tableIn (off := 232) (tgt := 266) hx hb dL_changes_34 (by rw [c_34_14]; decide) (by rw [c_34_14]; decide) (by rw [c_34_14]; rfl) (by decide) ?_
    refine lv_aload_n hx hb dL_changes_266 rfl (lv_at hl 3 rfl) ?_
    refine lv_iload_n hx hb dL_changes_267 rfl (lv_at hl 1 rfl) ?_
    refine lv_iload_n hx hb dL_changes_268 rfl (lv_at hl 4 rfl) ?_
    refine lv_bipush (v := 10) hx hb dL_changes_269 (by decide) ?_
    refine lv_ishr hx hb dL_changes_271 ?_
    refine lv_bipush (v := 11) hx hb dL_changes_272 (by decide) ?_
    refine gcS (As := [.int (x >>> (10 &&& 31)), .int 11]) 1 S G (k_some l cs hF hY hlt μ (x >>> (10 &&& 31)) (11) (by first | assumption | omega | decide)) cks_yL_some ml_RL_165 hP hS hl.1 ⟨by decide, by decide⟩ rfl (by rfl) (Nat.le_of_ble_eq_true rfl) ⟨by omega, (by show _ ≤ 90; omega), (by show _ ≤ 6 * 90; omega)⟩ dL_changes_274 (fun r_106 ν_107 H locs hq_108 hP hS => ?_)
    obtain ⟨hq_108a, hq_108b⟩ := hq_108; subst r_106; subst ν_107
    refine gcH (As := [.ref (ad 0), .int (smV (x >>> (4 &&& 31)) (nI ((gn μ) + 1))), .int (smV (x >>> (10 &&& 31)) (11))]) 3 S G (g_habit l cs hF hY hlt μ (smV (x >>> (4 &&& 31)) (nI ((gn μ) + 1))) (smV (x >>> (10 &&& 31)) (11))) ckh_habit ml_RL_176 hP hS hl.1 ⟨by decide, by decide⟩ rfl (by rfl) (Nat.le_of_ble_eq_true rfl) ⟨by omega, (by show _ ≤ 90; omega), (by show _ ≤ 6 * 90; omega)⟩ dL_changes_277 (fun r_109 ν_110 H locs hq_111 hP hS => ?_)
    obtain ⟨hq_111a, hq_111b⟩ := hq_111; subst r_109; subst ν_110
    refine lv_sipush (v := (-1001)) hx hb dL_changes_280 (by decide) ?_
    refine lv_icmp_eq (tgt := 290) hx hb dL_changes_283 (by decide) (fun c_283 => ?_) (fun c_283 => ?_)
    · refine lv_iconst (v := 0) hx hb dL_changes_290 (by decide) ?_
      exact eGz S hr hlocks hP hS ⟨by omega, by omega⟩ (by decide) dL_changes_291 (Or.inr ⟨rfl, ch_0 C0 c_283⟩)
    · refine lv_iconst (v := 1) hx hb dL_changes_286 (by decide) ?_
      refine lv_goto (tgt := 291) hx hb dL_changes_287 (by decide) ?_
      exact eGz S hr hlocks hP hS ⟨by omega, by omega⟩ (by decide) dL_changes_291 (Or.inl ⟨rfl, ch_1 C0 hL0 c_283⟩)
  by_cases c_34_15 : smV x (22) = 15
  · refine lv_tableIn (off := 258) (tgt := 292) hx hb dL_changes_34 (by rw [c_34_15]; decide) (by rw [c_34_15]; decide) (by rw [c_34_15]; rfl) (by decide) ?_
    refine lv_aload_n hx hb dL_changes_292 rfl (lv_at hl 3 rfl) ?_
    refine lv_iload_n hx hb dL_changes_293 rfl (lv_at hl 4 rfl) ?_
    refine lv_bipush (v := 6) hx hb dL_changes_294 (by decide) ?_
    refine lv_ishr hx hb dL_changes_296 ?_
    refine lv_iconst (v := 1) hx hb dL_changes_297 (by decide) ?_
    refine lv_iand hx hb dL_changes_298 ?_
    refine lv_if_ne (tgt := 336) hx hb dL_changes_299 (by decide) (fun c_299 => ?_) (fun c_299 => ?_)
    · obtain ⟨hP, hD⟩ := gW0 G hP
      refine gN 2 S X0 hP hD hS cl_RL_243 ⟨by omega, (by show _ ≤ 90; omega), (by show _ ≤ 6 * 90; omega)⟩ dL_changes_336 (fun q_112 H hP hD hS => ?_)
      replace hP : wG D ct ek ad (X ++ [(q_112, .inr (9, [.null, .int 0, .int 0, .int 0]))]) μ H := hP
      replace hD : wD ct ek ad N0 (X ++ [(q_112, .inr (9, [.null, .int 0, .int 0, .int 0]))]) := hD
      refine lv_dup hx hb dL_changes_339 rfl ?_
      refine gBI (As := []) 5 S X0 (fun B => b_J4_init_da8c8 l cs hF hZ B q_112) kb_yJ4_init_da8c8 rfl ml_RL_245 im_yJ4_init_da8c8 hP hD hS hl.1 ⟨by decide, by decide⟩ rfl (by rfl) (Nat.le_of_ble_eq_true rfl) ⟨by omega, (by show _ ≤ 90; omega), (by show _ ≤ 6 * 90; omega)⟩ dL_changes_340 (fun g_113 H locs hP hD hS => ?_)
      replace hP : wG D ct ek ad (X ++ [(q_112, .inr (9, [.ref (g_113 0), .int 0, .int 0, .int (nI 0)])), ((g_113 0), .inl (ct 7, 16, .inl (fun _ => 0)))]) μ H := hP
      replace hD : wD ct ek ad N0 (X ++ [(q_112, .inr (9, [.ref (g_113 0), .int 0, .int 0, .int (nI 0)])), ((g_113 0), .inl (ct 7, 16, .inl (fun _ => 0)))]) := hD
      refine va_ldcSW hx hb S.2.2.2.1 (FC.sL 2 (by decide)) dL_changes_343 ?_
      refine gBW (As := [.ref (cs 10)]) (C := RJ4) 5 S X0 (fun B => b_J4_append_15ec4 l cs hF hZ B q_112 (g_113 0) 0 (fun _ => 0) 10 (by decide) (by decide)) kb_yJ4_append_15ec4 ml_RL_248 im_yJ4_append_15ec4 (S.2.2.2.2 _ se_RJ4_yJ4_append_15ec4) (ci := 9) 0 rfl rfl hP hD hS hl.1 ⟨by decide, by decide⟩ rfl (by rfl) (Nat.le_of_ble_eq_true rfl) ⟨by omega, (by show _ ≤ 90; omega), (by show _ ≤ 6 * 90; omega)⟩ dL_changes_346 (fun _ H locs hP hD hS => ?_)
      replace hP : wG D ct ek ad (X ++ [(q_112, .inr (9, [.ref (g_113 0), .int 0, .int 0, .int (nI 6)])), ((g_113 0), .inl (ct 7, 16, .inl (f1K 10)))]) μ H := hP
      replace hD : wD ct ek ad N0 (X ++ [(q_112, .inr (9, [.ref (g_113 0), .int 0, .int 0, .int (nI 6)])), ((g_113 0), .inl (ct 7, 16, .inl (f1K 10)))]) := hD
      refine lv_iload_n hx hb dL_changes_349 rfl (lv_at hl 4 rfl) ?_
      refine lv_iconst (v := 4) hx hb dL_changes_350 (by decide) ?_
      refine lv_ishr hx hb dL_changes_351 ?_
      refine lv_iconst (v := 4) hx hb dL_changes_352 (by decide) ?_
      refine gcX (As := [.int (x >>> (4 &&& 31)), .int 4]) 5 S X0 hD (k_some l cs hF hY hlt μ (x >>> (4 &&& 31)) (4) (by first | assumption | omega | decide)) cks_yL_some ml_RL_165 hP hS hl.1 ⟨by decide, by decide⟩ rfl (by rfl) (Nat.le_of_ble_eq_true rfl) ⟨by omega, (by show _ ≤ 90; omega), (by show _ ≤ 6 * 90; omega)⟩ dL_changes_353 (fun r_115 ν_116 H locs hq_117 hP hS => ?_)
      obtain ⟨hq_117a, hq_117b⟩ := hq_117; subst r_115; subst ν_116
      obtain ⟨d1, ed1, ld1⟩ := smX (x := x >>> (4 &&& 31)) (N := 4) (by decide) (by decide)
      refine lv_tope (y := nI d1) ed1 ?_
      refine gBW (As := [.int (nI d1)]) (C := RJ4) 5 S X0 (fun B => b_J4_append_bf812 l cs hF hZ B q_112 (g_113 0) 6 (f1K 10) d1 (by omega) (by decide)) kb_yJ4_append_bf812 ml_RL_251 im_yJ4_append_bf812 (S.2.2.2.2 _ se_RJ4_yJ4_append_bf812) (ci := 9) 0 rfl rfl hP hD hS hl.1 ⟨by decide, by decide⟩ rfl (by rfl) (Nat.le_of_ble_eq_true rfl) ⟨by omega, (by show _ ≤ 90; omega), (by show _ ≤ 6 * 90; omega)⟩ dL_changes_356 (fun _ H locs hP hD hS => ?_)
      replace hP : wG D ct ek ad (X ++ [(q_112, .inr (9, [.ref (g_113 0), .int 0, .int 0, .int (nI 7)])), ((g_113 0), .inl (ct 7, 16, .inl (f2K 10 d1)))]) μ H := hP
      replace hD : wD ct ek ad N0 (X ++ [(q_112, .inr (9, [.ref (g_113 0), .int 0, .int 0, .int (nI 7)])), ((g_113 0), .inl (ct 7, 16, .inl (f2K 10 d1)))]) := hD
      refine gBW (As := []) (C := RJ4) 9 S X0 (fun B => b_J4_toString_0e30d l cs hF hZ B q_112 (g_113 0) 7 (f2K 10 d1) (by decide) (fB_fit d1 (by omega))) kb_yJ4_toString_0e30d ml_RL_256 im_yJ4_toString_0e30d (S.2.2.2.2 _ se_RJ4_yJ4_toString_0e30d) (ci := 9) 0 rfl rfl hP hD hS hl.1 ⟨by decide, by decide⟩ rfl (by rfl) (Nat.le_of_ble_eq_true rfl) ⟨by omega, (by show _ ≤ 90; omega), (by show _ ≤ 6 * 90; omega)⟩ dL_changes_359 (fun g_119 H locs hP hD hS => ?_)
      replace hP : wG D ct ek ad (X ++ [(q_112, .inr (9, [.ref (g_113 0), .int 0, .int 0, .int (nI 7)])), ((g_113 0), .inl (ct 7, 16, .inl (f2K 10 d1))), ((g_119 1), .inr (10, [.ref (g_119 0), .int 0, .int 0, .int 0])), ((g_119 0), .inl (ct 7, 7, .inl (fZ (f2K 10 d1) 7)))]) μ H := hP
      replace hD : wD ct ek ad N0 (X ++ [(q_112, .inr (9, [.ref (g_113 0), .int 0, .int 0, .int (nI 7)])), ((g_113 0), .inl (ct 7, 16, .inl (f2K 10 d1))), ((g_119 1), .inr (10, [.ref (g_119 0), .int 0, .int 0, .int 0])), ((g_119 0), .inl (ct 7, 7, .inl (fZ (f2K 10 d1) 7)))]) := hD
      refine gcX (As := [.ref (ad 0), .ref (g_119 1)]) 79 S X0 hD (k_runs l cs hF hY hlt μ (g_119 1) 7 (by decide) (fZ (f2K 10 d1) 7) (fB_nar d1 (by omega)) (rcv_m (at_B (B := X) (j := 2) rfl)) (fun σ => c_m_length l σ cs hF (g_119 1) (g_119 0) 7 (fZ (f2K 10 d1) 7) _ _ (by decide) (at_B (B := X) (j := 2) rfl) (at_B (B := X) (j := 3) rfl) (fB_ch d1 (by omega))) (fun k hk σ => c_m_charAt l σ cs hF (g_119 1) (g_119 0) 7 (fZ (f2K 10 d1) 7) _ _ (by decide) (at_B (B := X) (j := 2) rfl) (at_B (B := X) (j := 3) rfl) (fB_ch d1 (by omega)) k hk) hL0) cks_yL_runs ml_RL_262 hP hS hl.1 ⟨by decide, by decide⟩ rfl rfl (Nat.le_of_ble_eq_true rfl) ⟨by omega, (by show _ ≤ 90; omega), (by show _ ≤ 6 * 90; omega)⟩ dL_changes_362 (fun r_120 ν_121 H locs hq_122 hP hS => ?_)
      replace hP := wG_drop hP
      obtain ⟨hq_122a, hq_122b⟩ := hq_122; subst r_120; subst ν_121
      have hk9 := txK_k (μ := μ) (f := (fZ (f2K 10 d1) 7)) 7
      have hcm := cm_core (μ := μ) (ρ := txK μ (fZ (f2K 10 d1) 7) 7) (by rw [txK_L hL0 7 (by decide)]; decide) (by rw [hk9.1 277 (by decide) (by decide)]; exact W0.1) (by show tN (txK μ (fZ (f2K 10 d1) 7) 7 276 4) ≤ 8; rw [hk9.2 4 (by decide) (by decide)]; exact C0.gj.2.2.2.1) (hk9.1 277 (by decide) (by decide)) (hk9.2 4 (by decide) (by decide)) (hk9.1 280 (by decide) (by decide)) (hk9.2 6 (by decide) (by decide)) (hk9.1 281 (by decide) (by decide)) hL1
      refine lv_if_lt (tgt := 372) hx hb dL_changes_365 (by decide) (fun c_365 => ?_) (fun c_365 => ?_)
      · refine lv_iconst (v := 0) hx hb dL_changes_372 (by decide) ?_
        exact eGz S hr hlocks hP hS ⟨by omega, by omega⟩ (by decide) dL_changes_373 (Or.inr ⟨rfl, (hcm.resolve_right (fun z => z.1 c_365)).2⟩)
      · refine lv_iconst (v := 1) hx hb dL_changes_368 (by decide) ?_
        refine lv_goto (tgt := 373) hx hb dL_changes_369 (by decide) ?_
        exact eGz S hr hlocks hP hS ⟨by omega, by omega⟩ (by decide) dL_changes_373 (Or.inl ⟨rfl, (hcm.resolve_left (fun z => c_365 z.1)).2⟩)
    · obtain ⟨hP, hD⟩ := gW0 G hP
      refine gN 2 S X0 hP hD hS cl_RL_243 ⟨by omega, (by show _ ≤ 90; omega), (by show _ ≤ 6 * 90; omega)⟩ dL_changes_302 (fun q_123 H hP hD hS => ?_)
      replace hP : wG D ct ek ad (X ++ [(q_123, .inr (9, [.null, .int 0, .int 0, .int 0]))]) μ H := hP
      replace hD : wD ct ek ad N0 (X ++ [(q_123, .inr (9, [.null, .int 0, .int 0, .int 0]))]) := hD
      refine lv_dup hx hb dL_changes_305 rfl ?_
      refine gBI (As := []) 5 S X0 (fun B => b_J4_init_da8c8 l cs hF hZ B q_123) kb_yJ4_init_da8c8 rfl ml_RL_245 im_yJ4_init_da8c8 hP hD hS hl.1 ⟨by decide, by decide⟩ rfl (by rfl) (Nat.le_of_ble_eq_true rfl) ⟨by omega, (by show _ ≤ 90; omega), (by show _ ≤ 6 * 90; omega)⟩ dL_changes_306 (fun g_124 H locs hP hD hS => ?_)
      replace hP : wG D ct ek ad (X ++ [(q_123, .inr (9, [.ref (g_124 0), .int 0, .int 0, .int (nI 0)])), ((g_124 0), .inl (ct 7, 16, .inl (fun _ => 0)))]) μ H := hP
      replace hD : wD ct ek ad N0 (X ++ [(q_123, .inr (9, [.ref (g_124 0), .int 0, .int 0, .int (nI 0)])), ((g_124 0), .inl (ct 7, 16, .inl (fun _ => 0)))]) := hD
      refine va_ldcS hx hb S.2.2.2.1 (FC.sL 0 (by decide)) dL_changes_309 ?_
      refine gBW (As := [.ref (cs 8)]) (C := RJ4) 5 S X0 (fun B => b_J4_append_15ec4 l cs hF hZ B q_123 (g_124 0) 0 (fun _ => 0) 8 (by decide) (by decide)) kb_yJ4_append_15ec4 ml_RL_248 im_yJ4_append_15ec4 (S.2.2.2.2 _ se_RJ4_yJ4_append_15ec4) (ci := 9) 0 rfl rfl hP hD hS hl.1 ⟨by decide, by decide⟩ rfl (by rfl) (Nat.le_of_ble_eq_true rfl) ⟨by omega, (by show _ ≤ 90; omega), (by show _ ≤ 6 * 90; omega)⟩ dL_changes_311 (fun _ H locs hP hD hS => ?_)
      replace hP : wG D ct ek ad (X ++ [(q_123, .inr (9, [.ref (g_124 0), .int 0, .int 0, .int (nI 3)])), ((g_124 0), .inl (ct 7, 16, .inl (f1K 8)))]) μ H := hP
      replace hD : wD ct ek ad N0 (X ++ [(q_123, .inr (9, [.ref (g_124 0), .int 0, .int 0, .int (nI 3)])), ((g_124 0), .inl (ct 7, 16, .inl (f1K 8)))]) := hD
      refine lv_iload_n hx hb dL_changes_314 rfl (lv_at hl 4 rfl) ?_
      refine lv_iconst (v := 4) hx hb dL_changes_315 (by decide) ?_
      refine lv_ishr hx hb dL_changes_316 ?_
      refine lv_bipush (v := 7) hx hb dL_changes_317 (by decide) ?_
      refine gcX (As := [.int (x >>> (4 &&& 31)), .int 7]) 5 S X0 hD (k_some l cs hF hY hlt μ (x >>> (4 &&& 31)) (7) (by first | assumption | omega | decide)) cks_yL_some ml_RL_165 hP hS hl.1 ⟨by decide, by decide⟩ rfl (by rfl) (Nat.le_of_ble_eq_true rfl) ⟨by omega, (by show _ ≤ 90; omega), (by show _ ≤ 6 * 90; omega)⟩ dL_changes_319 (fun r_126 ν_127 H locs hq_128 hP hS => ?_)
      obtain ⟨hq_128a, hq_128b⟩ := hq_128; subst r_126; subst ν_127
      obtain ⟨d1, ed1, ld1⟩ := smX (x := x >>> (4 &&& 31)) (N := 7) (by decide) (by decide)
      refine lv_tope (y := nI d1) ed1 ?_
      refine gBW (As := [.int (nI d1)]) (C := RJ4) 5 S X0 (fun B => b_J4_append_bf812 l cs hF hZ B q_123 (g_124 0) 3 (f1K 8) d1 (by omega) (by decide)) kb_yJ4_append_bf812 ml_RL_251 im_yJ4_append_bf812 (S.2.2.2.2 _ se_RJ4_yJ4_append_bf812) (ci := 9) 0 rfl rfl hP hD hS hl.1 ⟨by decide, by decide⟩ rfl (by rfl) (Nat.le_of_ble_eq_true rfl) ⟨by omega, (by show _ ≤ 90; omega), (by show _ ≤ 6 * 90; omega)⟩ dL_changes_322 (fun _ H locs hP hD hS => ?_)
      replace hP : wG D ct ek ad (X ++ [(q_123, .inr (9, [.ref (g_124 0), .int 0, .int 0, .int (nI 4)])), ((g_124 0), .inl (ct 7, 16, .inl (f2K 8 d1)))]) μ H := hP
      replace hD : wD ct ek ad N0 (X ++ [(q_123, .inr (9, [.ref (g_124 0), .int 0, .int 0, .int (nI 4)])), ((g_124 0), .inl (ct 7, 16, .inl (f2K 8 d1)))]) := hD
      refine va_ldcS hx hb S.2.2.2.1 (FC.sL 1 (by decide)) dL_changes_325 ?_
      refine gBW (As := [.ref (cs 9)]) (C := RJ4) 5 S X0 (fun B => b_J4_append_15ec4 l cs hF hZ B q_123 (g_124 0) 4 (f2K 8 d1) 9 (by decide) (by decide)) kb_yJ4_append_15ec4 ml_RL_248 im_yJ4_append_15ec4 (S.2.2.2.2 _ se_RJ4_yJ4_append_15ec4) (ci := 9) 0 rfl rfl hP hD hS hl.1 ⟨by decide, by decide⟩ rfl (by rfl) (Nat.le_of_ble_eq_true rfl) ⟨by omega, (by show _ ≤ 90; omega), (by show _ ≤ 6 * 90; omega)⟩ dL_changes_327 (fun _ H locs hP hD hS => ?_)
      replace hP : wG D ct ek ad (X ++ [(q_123, .inr (9, [.ref (g_124 0), .int 0, .int 0, .int (nI 6)])), ((g_124 0), .inl (ct 7, 16, .inl (f3K 8 d1)))]) μ H := hP
      replace hD : wD ct ek ad N0 (X ++ [(q_123, .inr (9, [.ref (g_124 0), .int 0, .int 0, .int (nI 6)])), ((g_124 0), .inl (ct 7, 16, .inl (f3K 8 d1)))]) := hD
      refine gBW (As := []) (C := RJ4) 9 S X0 (fun B => b_J4_toString_0e30d l cs hF hZ B q_123 (g_124 0) 6 (f3K 8 d1) (by decide) (fA_fit d1 (by omega))) kb_yJ4_toString_0e30d ml_RL_256 im_yJ4_toString_0e30d (S.2.2.2.2 _ se_RJ4_yJ4_toString_0e30d) (ci := 9) 0 rfl rfl hP hD hS hl.1 ⟨by decide, by decide⟩ rfl (by rfl) (Nat.le_of_ble_eq_true rfl) ⟨by omega, (by show _ ≤ 90; omega), (by show _ ≤ 6 * 90; omega)⟩ dL_changes_330 (fun g_131 H locs hP hD hS => ?_)
      replace hP : wG D ct ek ad (X ++ [(q_123, .inr (9, [.ref (g_124 0), .int 0, .int 0, .int (nI 6)])), ((g_124 0), .inl (ct 7, 16, .inl (f3K 8 d1))), ((g_131 1), .inr (10, [.ref (g_131 0), .int 0, .int 0, .int 0])), ((g_131 0), .inl (ct 7, 6, .inl (fZ (f3K 8 d1) 6)))]) μ H := hP
      replace hD : wD ct ek ad N0 (X ++ [(q_123, .inr (9, [.ref (g_124 0), .int 0, .int 0, .int (nI 6)])), ((g_124 0), .inl (ct 7, 16, .inl (f3K 8 d1))), ((g_131 1), .inr (10, [.ref (g_131 0), .int 0, .int 0, .int 0])), ((g_131 0), .inl (ct 7, 6, .inl (fZ (f3K 8 d1) 6)))]) := hD
      refine lv_goto (tgt := 362) hx hb dL_changes_333 (by decide) ?_
      refine gcX (As := [.ref (ad 0), .ref (g_131 1)]) 79 S X0 hD (k_runs l cs hF hY hlt μ (g_131 1) 6 (by decide) (fZ (f3K 8 d1) 6) (fA_nar d1 (by omega)) (rcv_m (at_B (B := X) (j := 2) rfl)) (fun σ => c_m_length l σ cs hF (g_131 1) (g_131 0) 6 (fZ (f3K 8 d1) 6) _ _ (by decide) (at_B (B := X) (j := 2) rfl) (at_B (B := X) (j := 3) rfl) (fA_ch d1 (by omega))) (fun k hk σ => c_m_charAt l σ cs hF (g_131 1) (g_131 0) 6 (fZ (f3K 8 d1) 6) _ _ (by decide) (at_B (B := X) (j := 2) rfl) (at_B (B := X) (j := 3) rfl) (fA_ch d1 (by omega)) k hk) hL0) cks_yL_runs ml_RL_262 hP hS hl.1 ⟨by decide, by decide⟩ rfl rfl (Nat.le_of_ble_eq_true rfl) ⟨by omega, (by show _ ≤ 90; omega), (by show _ ≤ 6 * 90; omega)⟩ dL_changes_362 (fun r_132 ν_133 H locs hq_134 hP hS => ?_)
      replace hP := wG_drop hP
      obtain ⟨hq_134a, hq_134b⟩ := hq_134; subst r_132; subst ν_133
      have hk9 := txK_k (μ := μ) (f := (fZ (f3K 8 d1) 6)) 6
      have hcm := cm_core (μ := μ) (ρ := txK μ (fZ (f3K 8 d1) 6) 6) (by rw [txK_L hL0 6 (by decide)]; decide) (by rw [hk9.1 277 (by decide) (by decide)]; exact W0.1) (by show tN (txK μ (fZ (f3K 8 d1) 6) 6 276 4) ≤ 8; rw [hk9.2 4 (by decide) (by decide)]; exact C0.gj.2.2.2.1) (hk9.1 277 (by decide) (by decide)) (hk9.2 4 (by decide) (by decide)) (hk9.1 280 (by decide) (by decide)) (hk9.2 6 (by decide) (by decide)) (hk9.1 281 (by decide) (by decide)) hL1
      refine lv_if_lt (tgt := 372) hx hb dL_changes_365 (by decide) (fun c_365 => ?_) (fun c_365 => ?_)
      · refine lv_iconst (v := 0) hx hb dL_changes_372 (by decide) ?_
        exact eGz S hr hlocks hP hS ⟨by omega, by omega⟩ (by decide) dL_changes_373 (Or.inr ⟨rfl, (hcm.resolve_right (fun z => z.1 c_365)).2⟩)
      · refine lv_iconst (v := 1) hx hb dL_changes_368 (by decide) ?_
        refine lv_goto (tgt := 373) hx hb dL_changes_369 (by decide) ?_
        exact eGz S hr hlocks hP hS ⟨by omega, by omega⟩ (by decide) dL_changes_373 (Or.inl ⟨rfl, (hcm.resolve_left (fun z => c_365 z.1)).2⟩)
  by_cases c_34_16 : smV x (22) = 16
  · refine lv_tableIn (off := 258) (tgt := 292) hx hb dL_changes_34 (by rw [c_34_16]; decide) (by rw [c_34_16]; decide) (by rw [c_34_16]; rfl) (by decide) ?_
    refine lv_aload_n hx hb dL_changes_292 rfl (lv_at hl 3 rfl) ?_
    refine lv_iload_n hx hb dL_changes_293 rfl (lv_at hl 4 rfl) ?_
    refine lv_bipush (v := 6) hx hb dL_changes_294 (by decide) ?_
    refine lv_ishr hx hb dL_changes_296 ?_
    refine lv_iconst (v := 1) hx hb dL_changes_297 (by decide) ?_
    refine lv_iand hx hb dL_changes_298 ?_
    refine lv_if_ne (tgt := 336) hx hb dL_changes_299 (by decide) (fun c_299 => ?_) (fun c_299 => ?_)
    · obtain ⟨hP, hD⟩ := gW0 G hP
      refine gN 2 S X0 hP hD hS cl_RL_243 ⟨by omega, (by show _ ≤ 90; omega), (by show _ ≤ 6 * 90; omega)⟩ dL_changes_336 (fun q_135 H hP hD hS => ?_)
      replace hP : wG D ct ek ad (X ++ [(q_135, .inr (9, [.null, .int 0, .int 0, .int 0]))]) μ H := hP
      replace hD : wD ct ek ad N0 (X ++ [(q_135, .inr (9, [.null, .int 0, .int 0, .int 0]))]) := hD
      refine lv_dup hx hb dL_changes_339 rfl ?_
      refine gBI (As := []) 5 S X0 (fun B => b_J4_init_da8c8 l cs hF hZ B q_135) kb_yJ4_init_da8c8 rfl ml_RL_245 im_yJ4_init_da8c8 hP hD hS hl.1 ⟨by decide, by decide⟩ rfl (by rfl) (Nat.le_of_ble_eq_true rfl) ⟨by omega, (by show _ ≤ 90; omega), (by show _ ≤ 6 * 90; omega)⟩ dL_changes_340 (fun g_136 H locs hP hD hS => ?_)
      replace hP : wG D ct ek ad (X ++ [(q_135, .inr (9, [.ref (g_136 0), .int 0, .int 0, .int (nI 0)])), ((g_136 0), .inl (ct 7, 16, .inl (fun _ => 0)))]) μ H := hP
      replace hD : wD ct ek ad N0 (X ++ [(q_135, .inr (9, [.ref (g_136 0), .int 0, .int 0, .int (nI 0)])), ((g_136 0), .inl (ct 7, 16, .inl (fun _ => 0)))]) := hD
      refine va_ldcSW hx hb S.2.2.2.1 (FC.sL 2 (by decide)) dL_changes_343 ?_
      refine gBW (As := [.ref (cs 10)]) (C := RJ4) 5 S X0 (fun B => b_J4_append_15ec4 l cs hF hZ B q_135 (g_136 0) 0 (fun _ => 0) 10 (by decide) (by decide)) kb_yJ4_append_15ec4 ml_RL_248 im_yJ4_append_15ec4 (S.2.2.2.2 _ se_RJ4_yJ4_append_15ec4) (ci := 9) 0 rfl rfl hP hD hS hl.1 ⟨by decide, by decide⟩ rfl (by rfl) (Nat.le_of_ble_eq_true rfl) ⟨by omega, (by show _ ≤ 90; omega), (by show _ ≤ 6 * 90; omega)⟩ dL_changes_346 (fun _ H locs hP hD hS => ?_)
      replace hP : wG D ct ek ad (X ++ [(q_135, .inr (9, [.ref (g_136 0), .int 0, .int 0, .int (nI 6)])), ((g_136 0), .inl (ct 7, 16, .inl (f1K 10)))]) μ H := hP
      replace hD : wD ct ek ad N0 (X ++ [(q_135, .inr (9, [.ref (g_136 0), .int 0, .int 0, .int (nI 6)])), ((g_136 0), .inl (ct 7, 16, .inl (f1K 10)))]) := hD
      refine lv_iload_n hx hb dL_changes_349 rfl (lv_at hl 4 rfl) ?_
      refine lv_iconst (v := 4) hx hb dL_changes_350 (by decide) ?_
      refine lv_ishr hx hb dL_changes_351 ?_
      refine lv_iconst (v := 4) hx hb dL_changes_352 (by decide) ?_
      refine gcX (As := [.int (x >>> (4 &&& 31)), .int 4]) 5 S X0 hD (k_some l cs hF hY hlt μ (x >>> (4 &&& 31)) (4) (by first | assumption | omega | decide)) cks_yL_some ml_RL_165 hP hS hl.1 ⟨by decide, by decide⟩ rfl (by rfl) (Nat.le_of_ble_eq_true rfl) ⟨by omega, (by show _ ≤ 90; omega), (by show _ ≤ 6 * 90; omega)⟩ dL_changes_353 (fun r_138 ν_139 H locs hq_140 hP hS => ?_)
      obtain ⟨hq_140a, hq_140b⟩ := hq_140; subst r_138; subst ν_139
      obtain ⟨d1, ed1, ld1⟩ := smX (x := x >>> (4 &&& 31)) (N := 4) (by decide) (by decide)
      refine lv_tope (y := nI d1) ed1 ?_
      refine gBW (As := [.int (nI d1)]) (C := RJ4) 5 S X0 (fun B => b_J4_append_bf812 l cs hF hZ B q_135 (g_136 0) 6 (f1K 10) d1 (by omega) (by decide)) kb_yJ4_append_bf812 ml_RL_251 im_yJ4_append_bf812 (S.2.2.2.2 _ se_RJ4_yJ4_append_bf812) (ci := 9) 0 rfl rfl hP hD hS hl.1 ⟨by decide, by decide⟩ rfl (by rfl) (Nat.le_of_ble_eq_true rfl) ⟨by omega, (by show _ ≤ 90; omega), (by show _ ≤ 6 * 90; omega)⟩ dL_changes_356 (fun _ H locs hP hD hS => ?_)
      replace hP : wG D ct ek ad (X ++ [(q_135, .inr (9, [.ref (g_136 0), .int 0, .int 0, .int (nI 7)])), ((g_136 0), .inl (ct 7, 16, .inl (f2K 10 d1)))]) μ H := hP
      replace hD : wD ct ek ad N0 (X ++ [(q_135, .inr (9, [.ref (g_136 0), .int 0, .int 0, .int (nI 7)])), ((g_136 0), .inl (ct 7, 16, .inl (f2K 10 d1)))]) := hD
      refine gBW (As := []) (C := RJ4) 9 S X0 (fun B => b_J4_toString_0e30d l cs hF hZ B q_135 (g_136 0) 7 (f2K 10 d1) (by decide) (fB_fit d1 (by omega))) kb_yJ4_toString_0e30d ml_RL_256 im_yJ4_toString_0e30d (S.2.2.2.2 _ se_RJ4_yJ4_toString_0e30d) (ci := 9) 0 rfl rfl hP hD hS hl.1 ⟨by decide, by decide⟩ rfl (by rfl) (Nat.le_of_ble_eq_true rfl) ⟨by omega, (by show _ ≤ 90; omega), (by show _ ≤ 6 * 90; omega)⟩ dL_changes_359 (fun g_142 H locs hP hD hS => ?_)
      replace hP : wG D ct ek ad (X ++ [(q_135, .inr (9, [.ref (g_136 0), .int 0, .int 0, .int (nI 7)])), ((g_136 0), .inl (ct 7, 16, .inl (f2K 10 d1))), ((g_142 1), .inr (10, [.ref (g_142 0), .int 0, .int 0, .int 0])), ((g_142 0), .inl (ct 7, 7, .inl (fZ (f2K 10 d1) 7)))]) μ H := hP
      replace hD : wD ct ek ad N0 (X ++ [(q_135, .inr (9, [.ref (g_136 0), .int 0, .int 0, .int (nI 7)])), ((g_136 0), .inl (ct 7, 16, .inl (f2K 10 d1))), ((g_142 1), .inr (10, [.ref (g_142 0), .int 0, .int 0, .int 0])), ((g_142 0), .inl (ct 7, 7, .inl (fZ (f2K 10 d1) 7)))]) := hD
      refine gcX (As := [.ref (ad 0), .ref (g_142 1)]) 79 S X0 hD (k_runs l cs hF hY hlt μ (g_142 1) 7 (by decide) (fZ (f2K 10 d1) 7) (fB_nar d1 (by omega)) (rcv_m (at_B (B := X) (j := 2) rfl)) (fun σ => c_m_length l σ cs hF (g_142 1) (g_142 0) 7 (fZ (f2K 10 d1) 7) _ _ (by decide) (at_B (B := X) (j := 2) rfl) (at_B (B := X) (j := 3) rfl) (fB_ch d1 (by omega))) (fun k hk σ => c_m_charAt l σ cs hF (g_142 1) (g_142 0) 7 (fZ (f2K 10 d1) 7) _ _ (by decide) (at_B (B := X) (j := 2) rfl) (at_B (B := X) (j := 3) rfl) (fB_ch d1 (by omega)) k hk) hL0) cks_yL_runs ml_RL_262 hP hS hl.1 ⟨by decide, by decide⟩ rfl rfl (Nat.le_of_ble_eq_true rfl) ⟨by omega, (by show _ ≤ 90; omega), (by show _ ≤ 6 * 90; omega)⟩ dL_changes_362 (fun r_143 ν_144 H locs hq_145 hP hS => ?_)
      replace hP := wG_drop hP
      obtain ⟨hq_145a, hq_145b⟩ := hq_145; subst r_143; subst ν_144
      have hk9 := txK_k (μ := μ) (f := (fZ (f2K 10 d1) 7)) 7
      have hcm := cm_core (μ := μ) (ρ := txK μ (fZ (f2K 10 d1) 7) 7) (by rw [txK_L hL0 7 (by decide)]; decide) (by rw [hk9.1 277 (by decide) (by decide)]; exact W0.1) (by show tN (txK μ (fZ (f2K 10 d1) 7) 7 276 4) ≤ 8; rw [hk9.2 4 (by decide) (by decide)]; exact C0.gj.2.2.2.1) (hk9.1 277 (by decide) (by decide)) (hk9.2 4 (by decide) (by decide)) (hk9.1 280 (by decide) (by decide)) (hk9.2 6 (by decide) (by decide)) (hk9.1 281 (by decide) (by decide)) hL1
      refine lv_if_lt (tgt := 372) hx hb dL_changes_365 (by decide) (fun c_365 => ?_) (fun c_365 => ?_)
      · refine lv_iconst (v := 0) hx hb dL_changes_372 (by decide) ?_
        exact eGz S hr hlocks hP hS ⟨by omega, by omega⟩ (by decide) dL_changes_373 (Or.inr ⟨rfl, (hcm.resolve_right (fun z => z.1 c_365)).2⟩)
      · refine lv_iconst (v := 1) hx hb dL_changes_368 (by decide) ?_
        refine lv_goto (tgt := 373) hx hb dL_changes_369 (by decide) ?_
        exact eGz S hr hlocks hP hS ⟨by omega, by omega⟩ (by decide) dL_changes_373 (Or.inl ⟨rfl, (hcm.resolve_left (fun z => c_365 z.1)).2⟩)
    · obtain ⟨hP, hD⟩ := gW0 G hP
      refine gN 2 S X0 hP hD hS cl_RL_243 ⟨by omega, (by show _ ≤ 90; omega), (by show _ ≤ 6 * 90; omega)⟩ dL_changes_302 (fun q_146 H hP hD hS => ?_)
      replace hP : wG D ct ek ad (X ++ [(q_146, .inr (9, [.null, .int 0, .int 0, .int 0]))]) μ H := hP
      replace hD : wD ct ek ad N0 (X ++ [(q_146, .inr (9, [.null, .int 0, .int 0, .int 0]))]) := hD
      refine lv_dup hx hb dL_changes_305 rfl ?_
      refine gBI (As := []) 5 S X0 (fun B => b_J4_init_da8c8 l cs hF hZ B q_146) kb_yJ4_init_da8c8 rfl ml_RL_245 im_yJ4_init_da8c8 hP hD hS hl.1 ⟨by decide, by decide⟩ rfl (by rfl) (Nat.le_of_ble_eq_true rfl) ⟨by omega, (by show _ ≤ 90; omega), (by show _ ≤ 6 * 90; omega)⟩ dL_changes_306 (fun g_147 H locs hP hD hS => ?_)
      replace hP : wG D ct ek ad (X ++ [(q_146, .inr (9, [.ref (g_147 0), .int 0, .int 0, .int (nI 0)])), ((g_147 0), .inl (ct 7, 16, .inl (fun _ => 0)))]) μ H := hP
      replace hD : wD ct ek ad N0 (X ++ [(q_146, .inr (9, [.ref (g_147 0), .int 0, .int 0, .int (nI 0)])), ((g_147 0), .inl (ct 7, 16, .inl (fun _ => 0)))]) := hD
      refine va_ldcS hx hb S.2.2.2.1 (FC.sL 0 (by decide)) dL_changes_309 ?_
      refine gBW (As := [.ref (cs 8)]) (C := RJ4) 5 S X0 (fun B => b_J4_append_15ec4 l cs hF hZ B q_146 (g_147 0) 0 (fun _ => 0) 8 (by decide) (by decide)) kb_yJ4_append_15ec4 ml_RL_248 im_yJ4_append_15ec4 (S.2.2.2.2 _ se_RJ4_yJ4_append_15ec4) (ci := 9) 0 rfl rfl hP hD hS hl.1 ⟨by decide, by decide⟩ rfl (by rfl) (Nat.le_of_ble_eq_true rfl) ⟨by omega, (by show _ ≤ 90; omega), (by show _ ≤ 6 * 90; omega)⟩ dL_changes_311 (fun _ H locs hP hD hS => ?_)
      replace hP : wG D ct ek ad (X ++ [(q_146, .inr (9, [.ref (g_147 0), .int 0, .int 0, .int (nI 3)])), ((g_147 0), .inl (ct 7, 16, .inl (f1K 8)))]) μ H := hP
      replace hD : wD ct ek ad N0 (X ++ [(q_146, .inr (9, [.ref (g_147 0), .int 0, .int 0, .int (nI 3)])), ((g_147 0), .inl (ct 7, 16, .inl (f1K 8)))]) := hD
      refine lv_iload_n hx hb dL_changes_314 rfl (lv_at hl 4 rfl) ?_
      refine lv_iconst (v := 4) hx hb dL_changes_315 (by decide) ?_
      refine lv_ishr hx hb dL_changes_316 ?_
      refine lv_bipush (v := 7) hx hb dL_changes_317 (by decide) ?_
      refine gcX (As := [.int (x >>> (4 &&& 31)), .int 7]) 5 S X0 hD (k_some l cs hF hY hlt μ (x >>> (4 &&& 31)) (7) (by first | assumption | omega | decide)) cks_yL_some ml_RL_165 hP hS hl.1 ⟨by decide, by decide⟩ rfl (by rfl) (Nat.le_of_ble_eq_true rfl) ⟨by omega, (by show _ ≤ 90; omega), (by show _ ≤ 6 * 90; omega)⟩ dL_changes_319 (fun r_149 ν_150 H locs hq_151 hP hS => ?_)
      obtain ⟨hq_151a, hq_151b⟩ := hq_151; subst r_149; subst ν_150
      obtain ⟨d1, ed1, ld1⟩ := smX (x := x >>> (4 &&& 31)) (N := 7) (by decide) (by decide)
      refine lv_tope (y := nI d1) ed1 ?_
      refine gBW (As := [.int (nI d1)]) (C := RJ4) 5 S X0 (fun B => b_J4_append_bf812 l cs hF hZ B q_146 (g_147 0) 3 (f1K 8) d1 (by omega) (by decide)) kb_yJ4_append_bf812 ml_RL_251 im_yJ4_append_bf812 (S.2.2.2.2 _ se_RJ4_yJ4_append_bf812) (ci := 9) 0 rfl rfl hP hD hS hl.1 ⟨by decide, by decide⟩ rfl (by rfl) (Nat.le_of_ble_eq_true rfl) ⟨by omega, (by show _ ≤ 90; omega), (by show _ ≤ 6 * 90; omega)⟩ dL_changes_322 (fun _ H locs hP hD hS => ?_)
      replace hP : wG D ct ek ad (X ++ [(q_146, .inr (9, [.ref (g_147 0), .int 0, .int 0, .int (nI 4)])), ((g_147 0), .inl (ct 7, 16, .inl (f2K 8 d1)))]) μ H := hP
      replace hD : wD ct ek ad N0 (X ++ [(q_146, .inr (9, [.ref (g_147 0), .int 0, .int 0, .int (nI 4)])), ((g_147 0), .inl (ct 7, 16, .inl (f2K 8 d1)))]) := hD
      refine va_ldcS hx hb S.2.2.2.1 (FC.sL 1 (by decide)) dL_changes_325 ?_
      refine gBW (As := [.ref (cs 9)]) (C := RJ4) 5 S X0 (fun B => b_J4_append_15ec4 l cs hF hZ B q_146 (g_147 0) 4 (f2K 8 d1) 9 (by decide) (by decide)) kb_yJ4_append_15ec4 ml_RL_248 im_yJ4_append_15ec4 (S.2.2.2.2 _ se_RJ4_yJ4_append_15ec4) (ci := 9) 0 rfl rfl hP hD hS hl.1 ⟨by decide, by decide⟩ rfl (by rfl) (Nat.le_of_ble_eq_true rfl) ⟨by omega, (by show _ ≤ 90; omega), (by show _ ≤ 6 * 90; omega)⟩ dL_changes_327 (fun _ H locs hP hD hS => ?_)
      replace hP : wG D ct ek ad (X ++ [(q_146, .inr (9, [.ref (g_147 0), .int 0, .int 0, .int (nI 6)])), ((g_147 0), .inl (ct 7, 16, .inl (f3K 8 d1)))]) μ H := hP
      replace hD : wD ct ek ad N0 (X ++ [(q_146, .inr (9, [.ref (g_147 0), .int 0, .int 0, .int (nI 6)])), ((g_147 0), .inl (ct 7, 16, .inl (f3K 8 d1)))]) := hD
      refine gBW (As := []) (C := RJ4) 9 S X0 (fun B => b_J4_toString_0e30d l cs hF hZ B q_146 (g_147 0) 6 (f3K 8 d1) (by decide) (fA_fit d1 (by omega))) kb_yJ4_toString_0e30d ml_RL_256 im_yJ4_toString_0e30d (S.2.2.2.2 _ se_RJ4_yJ4_toString_0e30d) (ci := 9) 0 rfl rfl hP hD hS hl.1 ⟨by decide, by decide⟩ rfl (by rfl) (Nat.le_of_ble_eq_true rfl) ⟨by omega, (by show _ ≤ 90; omega), (by show _ ≤ 6 * 90; omega)⟩ dL_changes_330 (fun g_154 H locs hP hD hS => ?_)
      replace hP : wG D ct ek ad (X ++ [(q_146, .inr (9, [.ref (g_147 0), .int 0, .int 0, .int (nI 6)])), ((g_147 0), .inl (ct 7, 16, .inl (f3K 8 d1))), ((g_154 1), .inr (10, [.ref (g_154 0), .int 0, .int 0, .int 0])), ((g_154 0), .inl (ct 7, 6, .inl (fZ (f3K 8 d1) 6)))]) μ H := hP
      replace hD : wD ct ek ad N0 (X ++ [(q_146, .inr (9, [.ref (g_147 0), .int 0, .int 0, .int (nI 6)])), ((g_147 0), .inl (ct 7, 16, .inl (f3K 8 d1))), ((g_154 1), .inr (10, [.ref (g_154 0), .int 0, .int 0, .int 0])), ((g_154 0), .inl (ct 7, 6, .inl (fZ (f3K 8 d1) 6)))]) := hD
      refine lv_goto (tgt := 362) hx hb dL_changes_333 (by decide) ?_
      refine gcX (As := [.ref (ad 0), .ref (g_154 1)]) 79 S X0 hD (k_runs l cs hF hY hlt μ (g_154 1) 6 (by decide) (fZ (f3K 8 d1) 6) (fA_nar d1 (by omega)) (rcv_m (at_B (B := X) (j := 2) rfl)) (fun σ => c_m_length l σ cs hF (g_154 1) (g_154 0) 6 (fZ (f3K 8 d1) 6) _ _ (by decide) (at_B (B := X) (j := 2) rfl) (at_B (B := X) (j := 3) rfl) (fA_ch d1 (by omega))) (fun k hk σ => c_m_charAt l σ cs hF (g_154 1) (g_154 0) 6 (fZ (f3K 8 d1) 6) _ _ (by decide) (at_B (B := X) (j := 2) rfl) (at_B (B := X) (j := 3) rfl) (fA_ch d1 (by omega)) k hk) hL0) cks_yL_runs ml_RL_262 hP hS hl.1 ⟨by decide, by decide⟩ rfl rfl (Nat.le_of_ble_eq_true rfl) ⟨by omega, (by show _ ≤ 90; omega), (by show _ ≤ 6 * 90; omega)⟩ dL_changes_362 (fun r_155 ν_156 H locs hq_157 hP hS => ?_)
      replace hP := wG_drop hP
      obtain ⟨hq_157a, hq_157b⟩ := hq_157; subst r_155; subst ν_156
      have hk9 := txK_k (μ := μ) (f := (fZ (f3K 8 d1) 6)) 6
      have hcm := cm_core (μ := μ) (ρ := txK μ (fZ (f3K 8 d1) 6) 6) (by rw [txK_L hL0 6 (by decide)]; decide) (by rw [hk9.1 277 (by decide) (by decide)]; exact W0.1) (by show tN (txK μ (fZ (f3K 8 d1) 6) 6 276 4) ≤ 8; rw [hk9.2 4 (by decide) (by decide)]; exact C0.gj.2.2.2.1) (hk9.1 277 (by decide) (by decide)) (hk9.2 4 (by decide) (by decide)) (hk9.1 280 (by decide) (by decide)) (hk9.2 6 (by decide) (by decide)) (hk9.1 281 (by decide) (by decide)) hL1
      refine lv_if_lt (tgt := 372) hx hb dL_changes_365 (by decide) (fun c_365 => ?_) (fun c_365 => ?_)
      · refine lv_iconst (v := 0) hx hb dL_changes_372 (by decide) ?_
        exact eGz S hr hlocks hP hS ⟨by omega, by omega⟩ (by decide) dL_changes_373 (Or.inr ⟨rfl, (hcm.resolve_right (fun z => z.1 c_365)).2⟩)
      · refine lv_iconst (v := 1) hx hb dL_changes_368 (by decide) ?_
        refine lv_goto (tgt := 373) hx hb dL_changes_369 (by decide) ?_
        exact eGz S hr hlocks hP hS ⟨by omega, by omega⟩ (by decide) dL_changes_373 (Or.inl ⟨rfl, (hcm.resolve_left (fun z => c_365 z.1)).2⟩)
  refine lv_tableOut (tgt := 374) hx hb dL_changes_34 (swout (0) (16) (fun n h1 h2 he => by
    rcases (show n = 0 ∨ n = 1 ∨ n = 2 ∨ n = 3 ∨ n = 4 ∨ n = 5 ∨ n = 6 ∨ n = 7 ∨ n = 8 ∨ n = 9 ∨ n = 10 ∨ n = 11 ∨ n = 12 ∨ n = 13 ∨ n = 14 ∨ n = 15 ∨ n = 16 by omega) with rfl | rfl | rfl | rfl | rfl | rfl | rfl | rfl | rfl | rfl | rfl | rfl | rfl | rfl | rfl | rfl | rfl
    · exact c_34_0 (Int32.toInt_inj.mp he)
    · exact c_34_1 (Int32.toInt_inj.mp he)
    · exact c_34_2 (Int32.toInt_inj.mp he)
    · exact c_34_3 (Int32.toInt_inj.mp he)
    · exact c_34_4 (Int32.toInt_inj.mp he)
    · exact c_34_5 (Int32.toInt_inj.mp he)
    · exact c_34_6 (Int32.toInt_inj.mp he)
    · exact c_34_7 (Int32.toInt_inj.mp he)
    · exact c_34_8 (Int32.toInt_inj.mp he)
    · exact c_34_9 (Int32.toInt_inj.mp he)
    · exact c_34_10 (Int32.toInt_inj.mp he)
    · exact c_34_11 (Int32.toInt_inj.mp he)
    · exact c_34_12 (Int32.toInt_inj.mp he)
    · exact c_34_13 (Int32.toInt_inj.mp he)
    · exact c_34_14 (Int32.toInt_inj.mp he)
    · exact c_34_15 (Int32.toInt_inj.mp he)
    · exact c_34_16 (Int32.toInt_inj.mp he))) (by decide) ?_
  refine lv_aload_n hx hb dL_changes_374 rfl (lv_at hl 3 rfl) ?_
  refine gcH (As := [.ref (ad 0)]) 3 S G (g_round l cs hF hY hlt μ) ckh_round ml_RL_179 hP hS hl.1 ⟨by decide, by decide⟩ rfl (by rfl) (Nat.le_of_ble_eq_true rfl) ⟨by omega, (by show _ ≤ 90; omega), (by show _ ≤ 6 * 90; omega)⟩ dL_changes_375 (fun r_158 ν_159 H locs hq_160 hP hS => ?_)
  obtain ⟨hq_160a, hq_160b⟩ := hq_160; subst r_158; subst ν_159
  refine lv_sipush (v := (-1001)) hx hb dL_changes_378 (by decide) ?_
  refine lv_icmp_eq (tgt := 388) hx hb dL_changes_381 (by decide) (fun c_381 => ?_) (fun c_381 => ?_)
  · refine lv_iconst (v := 0) hx hb dL_changes_388 (by decide) ?_
    exact eGz S hr hlocks hP hS ⟨by omega, by omega⟩ (by decide) dL_changes_389 (Or.inr ⟨rfl, ch_0 C0 c_381⟩)
  · refine lv_iconst (v := 1) hx hb dL_changes_384 (by decide) ?_
    refine lv_goto (tgt := 389) hx hb dL_changes_385 (by decide) ?_
    exact eGz S hr hlocks hP hS ⟨by omega, by omega⟩ (by decide) dL_changes_389 (Or.inl ⟨rfl, ch_1 C0 hL0 c_381⟩)

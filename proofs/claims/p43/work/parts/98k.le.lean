/-! the law, its first object (laid by wip/p43/spec_le.py) -/
set_option maxHeartbeats 40000000 in
set_option maxRecDepth 100000 in
/-- the first object, to its end -/
theorem law_e {p : Program} {l : Launch} {e : Env} {s : State} {m : MethodId} {below : List Frame} {meth : Method} {c : Code} {Q : State → Prop} {D : va_G} {ct : Nat → ClassId} {ek ad : Nat → Nat} {N0 : Nat} {F : State → Prop} {cs : Nat → Nat} {b : Nat} (S : CallFix p m c cL_law 11 s #[.ref b] BW RL) (hF : ∀ U, F U → FX ek cs N0 U) (hY : ∀ U, F U → FY U) (hlt : l.stackTraces = false) (G : GI D ct ek ad N0 [] F s)
    (kE : ∀ (ν : Mem) (H : Heap) (locs : List Loc) (ls : Array Slot), wG D ct ek ad [] ν H → va_S (fr N0) s.heap H locs → lv_has ls 11 [(1, .ref (ad 0)), (0, .ref b)] → W p l e room_1 s m #[.ref b] below meth c H locs 600 (6 * 600) Q (F0 m 529 ls [])) :
    ∀ (H : Heap) (locs : List Loc) (ls : Array Slot), wG D ct ek ad [] M0 H → va_S (fr N0) s.heap H locs → lv_has ls 11 [(1, .ref (ad 0)), (0, .ref b)] → W p l e room_1 s m #[.ref b] below meth c H locs 304 (6 * 304) Q (F0 m 8 ls []) := by
  intro H locs ls hP hS hl
  have hx := S.1
  have hb := S.2.1
  refine lv_aload_n hx hb dL_law_8 rfl (lv_at hl 0 rfl) ?_
  refine gcH (As := [.ref (ad 0)]) 305 S G (g_undo l cs hF hY hlt M0) ckh_undo ml_RL_292 hP hS hl.1 ⟨by decide, by decide⟩ rfl (by rfl) (Nat.le_of_ble_eq_true rfl) ⟨by omega, (by show _ ≤ 600390; omega), (by show _ ≤ 7289640; omega)⟩ dL_law_9 (fun r_1 ν_2 H locs hq_3 hP hS => ?_)
  obtain ⟨hq_3a, hq_3b⟩ := hq_3
  have er9 := hq_3a.trans (un_z (μ := M0) (by decide)).1
  replace hP := wG_e hP (hq_3b.trans (un_z (μ := M0) (by decide)).2)
  refine lv_tope (y := (-1001)) er9 ?_
  refine lv_sipush (v := (-1001)) hx hb dL_law_12 (by decide) ?_
  refine lv_icmp_ne (tgt := 35) hx hb dL_law_15 (by decide) (fun c_15 => absurd (by decide) c_15) (fun c_15 => ?_)
  refine lv_aload_n hx hb dL_law_18 rfl (lv_at hl 0 rfl) ?_
  refine gcH (As := [.ref (ad 0)]) 306 S G (g_restore l cs hF hY hlt M0) ckh_restore ml_RL_294 hP hS hl.1 ⟨by decide, by decide⟩ rfl (by rfl) (Nat.le_of_ble_eq_true rfl) ⟨by omega, (by show _ ≤ 600390; omega), (by show _ ≤ 7289640; omega)⟩ dL_law_19 (fun r_4 ν_5 H locs hq_6 hP hS => ?_)
  obtain ⟨hq_6a, hq_6b⟩ := hq_6
  have er19 : r_4 = -1001 := hq_6a.trans (congrArg Prod.fst (show rsG M0 = (-1001, M0) from if_pos (by decide)))
  replace hP := wG_e hP (hq_6b.trans (congrArg Prod.snd (show rsG M0 = (-1001, M0) from if_pos (by decide))))
  refine lv_tope (y := (-1001)) er19 ?_
  refine lv_sipush (v := (-1001)) hx hb dL_law_22 (by decide) ?_
  refine lv_icmp_ne (tgt := 35) hx hb dL_law_25 (by decide) (fun c_25 => absurd (by decide) c_25) (fun c_25 => ?_)
  refine lv_aload_n hx hb dL_law_28 rfl (lv_at hl 0 rfl) ?_
  refine gcV (As := []) (fs := []) (gp := fun r ν => r = M0 277 0 ∧ ν = savM M0) S G 0 (post := fun σ r τ => SavQ τ σ ∧ r = σ (1 + 1) 7) (fun σ C => c_X10_save l σ _ _ C.go) (fun σ r τ C h => sv_q C h) ok_yX10_save ml_RL_296 (by decide) oXe rfl hP hS hl.1 ⟨by decide, by decide⟩ rfl (by rfl) (Nat.le_of_ble_eq_true rfl) ⟨(by show _ ≤ 600390; omega), (by show _ ≤ 7289640; omega)⟩ dL_law_29 (fun r_7 ν_8 H locs hq_9 hP hS => ?_)
  obtain ⟨hq_9a, hq_9b⟩ := hq_9; subst r_7; subst ν_8
  refine lv_tope (y := 0) (by decide) ?_
  refine lv_if_eq (tgt := 37) hx hb dL_law_32 (by decide) (fun c_32 => ?_) (fun c_32 => absurd (by decide) c_32)
  obtain ⟨ν32, hE32, hP⟩ : ∃ π, SE π 0 0 ∧ wG D ct ek ad [] π H := ⟨_, e_st, wG_nrm hP⟩
  refine lv_iconst (v := 0) hx hb dL_law_37 (by decide) ?_
  refine lv_istore_n (lv' := [(2, .int 0), (1, .ref (ad 0)), (0, .ref b)]) hx hb dL_law_38 rfl hl (by decide) rfl (fun ls hl => ?_)
  have key_39 : ∀ (d k : Nat), k + d = 60 → ∀ (H : Heap) (locs : List Loc) (ls : Array Slot), wG D ct ek ad [] (txK ν32 eXF k) H → va_S (fr N0) s.heap H locs → lv_has ls 11 [(2, .int (nI k)), (1, .ref (ad 0)), (0, .ref b)] → W p l e room_1 s m #[.ref b] below meth c H locs (1 * k + 306) (6 * (1 * k + 306)) Q (F0 m 39 ls []) := by
    intro d
    induction d with
    | zero =>
      intro k9 hk
      obtain rfl : 60 = k9 := by omega
      intro  H locs ls hP hS hl
      refine lv_iload_n hx hb dL_law_39 rfl (lv_at hl 0 rfl) ?_
      refine lv_bipush (v := 60) hx hb dL_law_40 (by decide) ?_
      refine lv_icmp_ge (tgt := 68) hx hb dL_law_42 (by decide) (fun c_42 => ?_) (fun c_42 => absurd (nI_le (a := 60) (b := 60) (by decide) (by decide)) c_42)
      refine lv_aload_n hx hb dL_law_68 rfl (lv_at hl 1 rfl) ?_
      refine lv_bipush (v := 114) hx hb dL_law_69 (by decide) ?_
      refine gcH (As := [.ref (ad 0), .int 114]) (1 * 60 + 307) S G (g_append l cs hF hY hlt (txK ν32 eXF 60) (114) (by decide)) ckh_append ml_RL_144 hP hS hl.1 ⟨by decide, by decide⟩ rfl (by rfl) (Nat.le_of_ble_eq_true rfl) ⟨by omega, (by show _ ≤ 600390; omega), (by show _ ≤ 7289640; omega)⟩ dL_law_71 (fun r_10 ν_11 H locs hq_12 hP hS => ?_)
      obtain ⟨hq_12a, hq_12b⟩ := hq_12; subst r_10; subst ν_11
      replace hP := wG_e hP (show _ = txK ν32 eXF 60 from (ap_no (txK_L hE32.L 60 (by decide))).2)
      refine lv_tope (y := (-1001)) (ap_no (txK_L hE32.L 60 (by decide))).1 ?_
      refine lv_sipush (v := (-1001)) hx hb dL_law_74 (by decide) ?_
      refine lv_icmp_ne (tgt := 117) hx hb dL_law_77 (by decide) (fun c_77 => absurd (by decide) c_77) (fun c_77 => ?_)
      refine lv_aload_n hx hb dL_law_80 rfl (lv_at hl 1 rfl) ?_
      refine lv_bipush (v := 10) hx hb dL_law_81 (by decide) ?_
      refine gcH (As := [.ref (ad 0), .int 10]) (1 * 60 + 308) S G (g_account l cs hF hY hlt (txK ν32 eXF 60) (10)) ckh_account ml_RL_201 hP hS hl.1 ⟨by decide, by decide⟩ rfl (by rfl) (Nat.le_of_ble_eq_true rfl) ⟨by omega, (by show _ ≤ 600390; omega), (by show _ ≤ 7289640; omega)⟩ dL_law_83 (fun r_13 ν_14 H locs hq_15 hP hS => ?_)
      obtain ⟨hq_15a, hq_15b⟩ := hq_15; subst r_13; subst ν_14
      refine lv_tope (y := 60) (ac_10.trans ((tx_11 hE32.L (k := 59) (by decide)).trans (by rfl))) ?_
      refine lv_bipush (v := 60) hx hb dL_law_86 (by decide) ?_
      refine lv_icmp_ne (tgt := 117) hx hb dL_law_88 (by decide) (fun c_88 => absurd (by decide) c_88) (fun c_88 => ?_)
      refine lv_aload_n hx hb dL_law_91 rfl (lv_at hl 1 rfl) ?_
      refine gcH (As := [.ref (ad 0)]) (1 * 60 + 310) S G (g_commands l cs hF hY hlt (txK ν32 eXF 60)) ckh_commands ml_RL_149 hP hS hl.1 ⟨by decide, by decide⟩ rfl (by rfl) (Nat.le_of_ble_eq_true rfl) ⟨by omega, (by show _ ≤ 600390; omega), (by show _ ≤ 7289640; omega)⟩ dL_law_92 (fun r_16 ν_17 H locs hq_18 hP hS => ?_)
      obtain ⟨hq_18a, hq_18b⟩ := hq_18; subst r_16; subst ν_17
      refine lv_tope (y := (-1001)) hE32.cm.1 ?_
      refine lv_sipush (v := (-1001)) hx hb dL_law_95 (by decide) ?_
      refine lv_icmp_ne (tgt := 117) hx hb dL_law_98 (by decide) (fun c_98 => absurd (by decide) c_98) (fun c_98 => ?_)
      refine lv_aload_n hx hb dL_law_101 rfl (lv_at hl 1 rfl) ?_
      refine gcV (As := []) (fs := []) (gp := fun r ν => r = ((cmG (txK ν32 eXF 60)).2) 276 15 ∧ ν = ((cmG (txK ν32 eXF 60)).2)) S G 0 (post := fun σ r τ => r = σ 0 10 ∧ τ = σ) (fun σ C => c_X10_faultPosition l σ) (fun σ r τ C h => ⟨_, eqC C h.2, h.1.trans C.2.2.2.2.2.2.1, rfl⟩) ok_yX10_faultPosition ml_RL_284 (by decide) oXe rfl hP hS hl.1 ⟨by decide, by decide⟩ rfl (by rfl) (Nat.le_of_ble_eq_true rfl) ⟨(by show _ ≤ 600390; omega), (by show _ ≤ 7289640; omega)⟩ dL_law_102 (fun r_19 ν_20 H locs hq_21 hP hS => ?_)
      obtain ⟨hq_21a, hq_21b⟩ := hq_21; subst r_19; subst ν_20
      refine lv_tope (y := 0) hE32.cm.2.2 ?_
      refine lv_if_ne (tgt := 117) hx hb dL_law_105 (by decide) (fun c_105 => absurd (by decide) c_105) (fun c_105 => ?_)
      refine lv_aload_n hx hb dL_law_108 rfl (lv_at hl 1 rfl) ?_
      refine lv_bipush (v := 10) hx hb dL_law_109 (by decide) ?_
      refine gcH (As := [.ref (ad 0), .int 10]) (1 * 60 + 311) S G (g_account l cs hF hY hlt ((cmG (txK ν32 eXF 60)).2) (10)) ckh_account ml_RL_201 hP hS hl.1 ⟨by decide, by decide⟩ rfl (by rfl) (Nat.le_of_ble_eq_true rfl) ⟨by omega, (by show _ ≤ 600390; omega), (by show _ ≤ 7289640; omega)⟩ dL_law_111 (fun r_22 ν_23 H locs hq_24 hP hS => ?_)
      obtain ⟨hq_24a, hq_24b⟩ := hq_24; subst r_22; subst ν_23
      refine lv_tope (y := 0) (hE32.cm.2.1.ac.trans (by decide +kernel)) ?_
      refine lv_if_eq (tgt := 119) hx hb dL_law_114 (by decide) (fun c_114 => ?_) (fun c_114 => absurd (by decide) c_114)
      refine lv_iconst (v := 0) hx hb dL_law_119 (by decide) ?_
      refine lv_istore_n (lv' := [(2, .int 0), (1, .ref (ad 0)), (0, .ref b)]) hx hb dL_law_120 rfl hl (by decide) rfl (fun ls hl => ?_)
      have key_121 : ∀ (d k : Nat), k + d = 6 → ∀ (ν : Mem), (SE ν k (min k 8)) → ∀ (H : Heap) (locs : List Loc) (ls : Array Slot), wG D ct ek ad [] ν H → va_S (fr N0) s.heap H locs → lv_has ls 11 [(2, .int (nI k)), (1, .ref (ad 0)), (0, .ref b)] → W p l e room_1 s m #[.ref b] below meth c H locs (2 * k + 380) (6 * (2 * k + 380)) Q (F0 m 121 ls []) := by
        intro d
        induction d with
        | zero =>
          intro k9 hk
          obtain rfl : 6 = k9 := by omega
          intro ν hν H locs ls hP hS hl
          refine lv_iload_n hx hb dL_law_121 rfl (lv_at hl 0 rfl) ?_
          refine lv_bipush (v := 6) hx hb dL_law_122 (by decide) ?_
          refine lv_icmp_ge (tgt := 161) hx hb dL_law_124 (by decide) (fun c_124 => ?_) (fun c_124 => absurd (nI_le (a := 6) (b := 6) (by decide) (by decide)) c_124)
          have hE161 : SE ν 6 (min 6 8) := hν
          refine lv_aload_n hx hb dL_law_161 rfl (lv_at hl 1 rfl) ?_
          refine lv_iconst (v := 0) hx hb dL_law_162 (by decide) ?_
          refine lv_iconst (v := 1) hx hb dL_law_163 (by decide) ?_
          refine gcH (As := [.ref (ad 0), .int 0, .int 1]) (2 * 6 + 382) S G (g_person l cs hF hY hlt ν (0) (1)) ckh_person ml_RL_168 hP hS hl.1 ⟨by decide, by decide⟩ rfl (by rfl) (Nat.le_of_ble_eq_true rfl) ⟨by omega, (by show _ ≤ 600390; omega), (by show _ ≤ 7289640; omega)⟩ dL_law_164 (fun r_25 ν_26 H locs hq_27 hP hS => ?_)
          obtain ⟨hq_27a, hq_27b⟩ := hq_27
          obtain ⟨er164, hE164, hK164⟩ := SE.no hE161 e_n1 (by decide) hq_27a hq_27b
          refine lv_tope (y := (-1001)) er164 ?_
          refine lv_sipush (v := (-1001)) hx hb dL_law_167 (by decide) ?_
          refine lv_icmp_ne (tgt := 220) hx hb dL_law_170 (by decide) (fun c_170 => absurd (by decide) c_170) (fun c_170 => ?_)
          refine lv_aload_n hx hb dL_law_173 rfl (lv_at hl 1 rfl) ?_
          refine lv_iconst (v := 2) hx hb dL_law_174 (by decide) ?_
          refine lv_bipush (v := 6) hx hb dL_law_175 (by decide) ?_
          refine gcS (As := [.ref (ad 0), .int 2, .int 6]) (2 * 6 + 386) S G (k_is l cs hF hY hlt ν_26 (2) (6) hK164) cks_yL_is ml_RL_270 hP hS hl.1 ⟨by decide, by decide⟩ rfl (by rfl) (Nat.le_of_ble_eq_true rfl) ⟨by omega, (by show _ ≤ 600390; omega), (by show _ ≤ 7289640; omega)⟩ dL_law_177 (fun r_28 ν_29 H locs hq_30 hP hS => ?_)
          obtain ⟨hq_30a, hq_30b⟩ := hq_30; subst r_28; subst ν_29
          refine lv_if_eq (tgt := 220) hx hb dL_law_180 (by decide) (fun c_180 => absurd c_180 (by decide)) (fun c_180 => ?_)
          refine lv_aload_n hx hb dL_law_183 rfl (lv_at hl 1 rfl) ?_
          refine lv_bipush (v := 9) hx hb dL_law_184 (by decide) ?_
          refine gcH (As := [.ref (ad 0), .int 9]) (2 * 6 + 387) S G (g_account l cs hF hY hlt ν_26 (9)) ckh_account ml_RL_201 hP hS hl.1 ⟨by decide, by decide⟩ rfl (by rfl) (Nat.le_of_ble_eq_true rfl) ⟨by omega, (by show _ ≤ 600390; omega), (by show _ ≤ 7289640; omega)⟩ dL_law_186 (fun r_31 ν_32 H locs hq_33 hP hS => ?_)
          obtain ⟨hq_33a, hq_33b⟩ := hq_33; subst r_31; subst ν_32
          refine lv_tope (y := 6) (hE164.ac.trans (by decide +kernel)) ?_
          refine lv_bipush (v := 6) hx hb dL_law_189 (by decide) ?_
          refine lv_icmp_ne (tgt := 220) hx hb dL_law_191 (by decide) (fun c_191 => absurd (by decide) c_191) (fun c_191 => ?_)
          refine lv_aload_n hx hb dL_law_194 rfl (lv_at hl 1 rfl) ?_
          refine lv_bipush (v := 8) hx hb dL_law_195 (by decide) ?_
          refine gcH (As := [.ref (ad 0), .int 8]) (2 * 6 + 388) S G (g_account l cs hF hY hlt ν_26 (8)) ckh_account ml_RL_201 hP hS hl.1 ⟨by decide, by decide⟩ rfl (by rfl) (Nat.le_of_ble_eq_true rfl) ⟨by omega, (by show _ ≤ 600390; omega), (by show _ ≤ 7289640; omega)⟩ dL_law_197 (fun r_34 ν_35 H locs hq_36 hP hS => ?_)
          obtain ⟨hq_36a, hq_36b⟩ := hq_36; subst r_34; subst ν_35
          refine lv_tope (y := 12) (hE164.ac.trans (by decide +kernel)) ?_
          refine lv_bipush (v := 12) hx hb dL_law_200 (by decide) ?_
          refine lv_icmp_ne (tgt := 220) hx hb dL_law_202 (by decide) (fun c_202 => absurd (by decide) c_202) (fun c_202 => ?_)
          refine lv_aload_n hx hb dL_law_205 rfl (lv_at hl 1 rfl) ?_
          refine gcV (As := []) (fs := []) (gp := fun r ν => r = cmsV (ν_26 277) (gn ν_26) (gn ν_26) ∧ ν = ν_26) S G 0 (post := fun σ r τ => r = lowV σ (1 + 1) (gn ν_26) (gn ν_26) ∧ τ = σ) (fun σ C => c_X10_camps l σ _ _ C.go) (fun σ r τ C h => ⟨_, eqC C h.2, by rw [h.1, low_e C.gw C.gh], rfl⟩) ok_yX10_camps ml_RL_233 (by decide) oXe rfl hP hS hl.1 ⟨by decide, by decide⟩ rfl (by rfl) (Nat.le_of_ble_eq_true rfl) ⟨(by show _ ≤ 600390; omega), (by show _ ≤ 7289640; omega)⟩ dL_law_206 (fun r_37 ν_38 H locs hq_39 hP hS => ?_)
          obtain ⟨hq_39a, hq_39b⟩ := hq_39; subst r_37; subst ν_38
          refine lv_tope (y := 5) ((vCps hE164.1).trans e_cp) ?_
          refine lv_iconst (v := 5) hx hb dL_law_209 (by decide) ?_
          refine lv_icmp_ne (tgt := 220) hx hb dL_law_210 (by decide) (fun c_210 => absurd (by decide) c_210) (fun c_210 => ?_)
          refine lv_aload_n hx hb dL_law_213 rfl (lv_at hl 1 rfl) ?_
          refine gcH (As := [.ref (ad 0)]) (2 * 6 + 389) S G (g_restsIn l cs hF hY hlt ν_26) ckh_restsIn ml_RL_231 hP hS hl.1 ⟨by decide, by decide⟩ rfl (by rfl) (Nat.le_of_ble_eq_true rfl) ⟨by omega, (by show _ ≤ 600390; omega), (by show _ ≤ 7289640; omega)⟩ dL_law_214 (fun r_40 ν_41 H locs hq_42 hP hS => ?_)
          obtain ⟨hq_42a, hq_42b⟩ := hq_42; subst r_40; subst ν_41
          refine lv_tope (y := 0) ((vRst hE164.1).trans e_rs) ?_
          refine lv_if_eq (tgt := 222) hx hb dL_law_217 (by decide) (fun c_217 => ?_) (fun c_217 => absurd (by decide) c_217)
          refine lv_iconst (v := 0) hx hb dL_law_222 (by decide) ?_
          refine lv_istore_n (lv' := [(2, .int 0), (1, .ref (ad 0)), (0, .ref b)]) hx hb dL_law_223 rfl hl (by decide) rfl (fun ls hl => ?_)
          have key_224 : ∀ (d k : Nat), k + d = 6 → ∀ (ν : Mem), (SE ν (6 + k) (min (6 + k) 8)) → ∀ (H : Heap) (locs : List Loc) (ls : Array Slot), wG D ct ek ad [] ν H → va_S (fr N0) s.heap H locs → lv_has ls 11 [(2, .int (nI k)), (1, .ref (ad 0)), (0, .ref b)] → W p l e room_1 s m #[.ref b] below meth c H locs (2 * k + 420) (6 * (2 * k + 420)) Q (F0 m 224 ls []) := by
            intro d
            induction d with
            | zero =>
              intro k9 hk
              obtain rfl : 6 = k9 := by omega
              intro ν hν H locs ls hP hS hl
              refine lv_iload_n hx hb dL_law_224 rfl (lv_at hl 0 rfl) ?_
              refine lv_bipush (v := 6) hx hb dL_law_225 (by decide) ?_
              refine lv_icmp_ge (tgt := 254) hx hb dL_law_227 (by decide) (fun c_227 => ?_) (fun c_227 => absurd (nI_le (a := 6) (b := 6) (by decide) (by decide)) c_227)
              have hE254 : SE ν 12 (min 12 8) := hν
              refine lv_aload_n hx hb dL_law_254 rfl (lv_at hl 1 rfl) ?_
              refine lv_iconst (v := 0) hx hb dL_law_255 (by decide) ?_
              refine lv_iconst (v := 2) hx hb dL_law_256 (by decide) ?_
              refine lv_iconst (v := 3) hx hb dL_law_257 (by decide) ?_
              refine gcH (As := [.ref (ad 0), .int 0, .int 2, .int 3]) (2 * 6 + 422) S G (g_beam l cs hF hY hlt ν (0) (2) (3)) ckh_beam ml_RL_174 hP hS hl.1 ⟨by decide, by decide⟩ rfl (by rfl) (Nat.le_of_ble_eq_true rfl) ⟨by omega, (by show _ ≤ 600390; omega), (by show _ ≤ 7289640; omega)⟩ dL_law_258 (fun r_43 ν_44 H locs hq_45 hP hS => ?_)
              obtain ⟨hq_45a, hq_45b⟩ := hq_45
              obtain ⟨er258, hE258, hK258⟩ := SE.no hE254 e_n2 (by decide) hq_45a hq_45b
              refine lv_tope (y := (-1001)) er258 ?_
              refine lv_sipush (v := (-1001)) hx hb dL_law_261 (by decide) ?_
              refine lv_icmp_ne (tgt := 358) hx hb dL_law_264 (by decide) (fun c_264 => absurd (by decide) c_264) (fun c_264 => ?_)
              refine lv_aload_n hx hb dL_law_267 rfl (lv_at hl 1 rfl) ?_
              refine lv_iconst (v := 2) hx hb dL_law_268 (by decide) ?_
              refine lv_bipush (v := 6) hx hb dL_law_269 (by decide) ?_
              refine gcS (As := [.ref (ad 0), .int 2, .int 6]) (2 * 6 + 426) S G (k_is l cs hF hY hlt ν_44 (2) (6) hK258) cks_yL_is ml_RL_270 hP hS hl.1 ⟨by decide, by decide⟩ rfl (by rfl) (Nat.le_of_ble_eq_true rfl) ⟨by omega, (by show _ ≤ 600390; omega), (by show _ ≤ 7289640; omega)⟩ dL_law_271 (fun r_46 ν_47 H locs hq_48 hP hS => ?_)
              obtain ⟨hq_48a, hq_48b⟩ := hq_48; subst r_46; subst ν_47
              refine lv_if_eq (tgt := 358) hx hb dL_law_274 (by decide) (fun c_274 => absurd c_274 (by decide)) (fun c_274 => ?_)
              refine lv_aload_n hx hb dL_law_277 rfl (lv_at hl 1 rfl) ?_
              refine lv_bipush (v := 9) hx hb dL_law_278 (by decide) ?_
              refine gcH (As := [.ref (ad 0), .int 9]) (2 * 6 + 427) S G (g_account l cs hF hY hlt ν_44 (9)) ckh_account ml_RL_201 hP hS hl.1 ⟨by decide, by decide⟩ rfl (by rfl) (Nat.le_of_ble_eq_true rfl) ⟨by omega, (by show _ ≤ 600390; omega), (by show _ ≤ 7289640; omega)⟩ dL_law_280 (fun r_49 ν_50 H locs hq_51 hP hS => ?_)
              obtain ⟨hq_51a, hq_51b⟩ := hq_51; subst r_49; subst ν_50
              refine lv_tope (y := 8) (hE258.ac.trans (by decide +kernel)) ?_
              refine lv_bipush (v := 8) hx hb dL_law_283 (by decide) ?_
              refine lv_icmp_ne (tgt := 358) hx hb dL_law_285 (by decide) (fun c_285 => absurd (by decide) c_285) (fun c_285 => ?_)
              refine lv_aload_n hx hb dL_law_288 rfl (lv_at hl 1 rfl) ?_
              refine lv_iconst (v := 5) hx hb dL_law_289 (by decide) ?_
              refine gcH (As := [.ref (ad 0), .int 5]) (2 * 6 + 429) S G (g_breaksIn l cs hF hY hlt ν_44 (5)) ckh_breaksIn ml_RL_224 hP hS hl.1 ⟨by decide, by decide⟩ rfl (by rfl) (Nat.le_of_ble_eq_true rfl) ⟨by omega, (by show _ ≤ 600390; omega), (by show _ ≤ 7289640; omega)⟩ dL_law_290 (fun r_52 ν_53 H locs hq_54 hP hS => ?_)
              obtain ⟨hq_54a, hq_54b⟩ := hq_54; subst r_52; subst ν_53
              refine lv_tope (y := 3) ((vBri hE258.1).trans e_br) ?_
              refine lv_iconst (v := 3) hx hb dL_law_293 (by decide) ?_
              refine lv_icmp_ne (tgt := 358) hx hb dL_law_294 (by decide) (fun c_294 => absurd (by decide) c_294) (fun c_294 => ?_)
              refine lv_aload_n hx hb dL_law_297 rfl (lv_at hl 1 rfl) ?_
              refine gcH (As := [.ref (ad 0)]) (2 * 6 + 431) S G (g_round l cs hF hY hlt ν_44) ckh_round ml_RL_179 hP hS hl.1 ⟨by decide, by decide⟩ rfl (by rfl) (Nat.le_of_ble_eq_true rfl) ⟨by omega, (by show _ ≤ 600390; omega), (by show _ ≤ 7289640; omega)⟩ dL_law_298 (fun r_55 ν_56 H locs hq_57 hP hS => ?_)
              obtain ⟨hq_57a, hq_57b⟩ := hq_57
              obtain ⟨er298, ν298, hE298, hP⟩ := SE.chW hE258 e_r0 hq_57a hq_57b hP
              refine lv_tope (y := 0) er298 ?_
              refine lv_if_ne (tgt := 358) hx hb dL_law_301 (by decide) (fun c_301 => absurd (by decide) c_301) (fun c_301 => ?_)
              refine lv_aload_n hx hb dL_law_304 rfl (lv_at hl 1 rfl) ?_
              refine lv_bipush (v := 6) hx hb dL_law_305 (by decide) ?_
              refine gcH (As := [.ref (ad 0), .int 6]) (2 * 6 + 432) S G (g_account l cs hF hY hlt ν298 (6)) ckh_account ml_RL_201 hP hS hl.1 ⟨by decide, by decide⟩ rfl (by rfl) (Nat.le_of_ble_eq_true rfl) ⟨by omega, (by show _ ≤ 600390; omega), (by show _ ≤ 7289640; omega)⟩ dL_law_307 (fun r_58 ν_59 H locs hq_60 hP hS => ?_)
              obtain ⟨hq_60a, hq_60b⟩ := hq_60; subst r_58; subst ν_59
              refine lv_tope (y := 6) (hE298.ac.trans (by decide +kernel)) ?_
              refine lv_bipush (v := 6) hx hb dL_law_310 (by decide) ?_
              refine lv_icmp_ne (tgt := 358) hx hb dL_law_312 (by decide) (fun c_312 => absurd (by decide) c_312) (fun c_312 => ?_)
              refine lv_aload_n hx hb dL_law_315 rfl (lv_at hl 1 rfl) ?_
              refine gcH (As := [.ref (ad 0)]) (2 * 6 + 434) S G (g_round l cs hF hY hlt ν298) ckh_round ml_RL_179 hP hS hl.1 ⟨by decide, by decide⟩ rfl (by rfl) (Nat.le_of_ble_eq_true rfl) ⟨by omega, (by show _ ≤ 600390; omega), (by show _ ≤ 7289640; omega)⟩ dL_law_316 (fun r_61 ν_62 H locs hq_63 hP hS => ?_)
              obtain ⟨hq_63a, hq_63b⟩ := hq_63
              obtain ⟨er316, ν316, hE316, hP⟩ := SE.chW hE298 e_r1 hq_63a hq_63b hP
              refine lv_tope (y := 0) er316 ?_
              refine lv_if_ne (tgt := 358) hx hb dL_law_319 (by decide) (fun c_319 => absurd (by decide) c_319) (fun c_319 => ?_)
              refine lv_aload_n hx hb dL_law_322 rfl (lv_at hl 1 rfl) ?_
              refine gcH (As := [.ref (ad 0)]) (2 * 6 + 436) S G (g_round l cs hF hY hlt ν316) ckh_round ml_RL_179 hP hS hl.1 ⟨by decide, by decide⟩ rfl (by rfl) (Nat.le_of_ble_eq_true rfl) ⟨by omega, (by show _ ≤ 600390; omega), (by show _ ≤ 7289640; omega)⟩ dL_law_323 (fun r_64 ν_65 H locs hq_66 hP hS => ?_)
              obtain ⟨hq_66a, hq_66b⟩ := hq_66
              obtain ⟨er323, ν323, hE323, hP⟩ := SE.chW hE316 e_r2 hq_66a hq_66b hP
              refine lv_tope (y := 0) er323 ?_
              refine lv_if_ne (tgt := 358) hx hb dL_law_326 (by decide) (fun c_326 => absurd (by decide) c_326) (fun c_326 => ?_)
              refine lv_aload_n hx hb dL_law_329 rfl (lv_at hl 1 rfl) ?_
              refine lv_bipush (v := 7) hx hb dL_law_330 (by decide) ?_
              refine gcH (As := [.ref (ad 0), .int 7]) (2 * 6 + 437) S G (g_account l cs hF hY hlt ν323 (7)) ckh_account ml_RL_201 hP hS hl.1 ⟨by decide, by decide⟩ rfl (by rfl) (Nat.le_of_ble_eq_true rfl) ⟨by omega, (by show _ ≤ 600390; omega), (by show _ ≤ 7289640; omega)⟩ dL_law_332 (fun r_67 ν_68 H locs hq_69 hP hS => ?_)
              obtain ⟨hq_69a, hq_69b⟩ := hq_69; subst r_67; subst ν_68
              refine lv_tope (y := 6) (hE323.ac.trans (by decide +kernel)) ?_
              refine lv_bipush (v := 6) hx hb dL_law_335 (by decide) ?_
              refine lv_icmp_ne (tgt := 358) hx hb dL_law_337 (by decide) (fun c_337 => absurd (by decide) c_337) (fun c_337 => ?_)
              refine lv_aload_n hx hb dL_law_340 rfl (lv_at hl 1 rfl) ?_
              refine lv_iconst (v := 2) hx hb dL_law_341 (by decide) ?_
              refine gcH (As := [.ref (ad 0), .int 2]) (2 * 6 + 438) S G (g_account l cs hF hY hlt ν323 (2)) ckh_account ml_RL_201 hP hS hl.1 ⟨by decide, by decide⟩ rfl (by rfl) (Nat.le_of_ble_eq_true rfl) ⟨by omega, (by show _ ≤ 600390; omega), (by show _ ≤ 7289640; omega)⟩ dL_law_342 (fun r_70 ν_71 H locs hq_72 hP hS => ?_)
              obtain ⟨hq_72a, hq_72b⟩ := hq_72; subst r_70; subst ν_71
              refine lv_tope (y := 0) (hE323.ac.trans (by decide +kernel)) ?_
              refine lv_if_ne (tgt := 358) hx hb dL_law_345 (by decide) (fun c_345 => absurd (by decide) c_345) (fun c_345 => ?_)
              refine lv_aload_n hx hb dL_law_348 rfl (lv_at hl 1 rfl) ?_
              refine lv_iconst (v := 0) hx hb dL_law_349 (by decide) ?_
              refine lv_iconst (v := 1) hx hb dL_law_350 (by decide) ?_
              refine gcH (As := [.ref (ad 0), .int 0, .int 1]) (2 * 6 + 440) S G (g_of l cs hF hY hlt ν323 (0) (1)) ckh_of ml_RL_203 hP hS hl.1 ⟨by decide, by decide⟩ rfl (by rfl) (Nat.le_of_ble_eq_true rfl) ⟨by omega, (by show _ ≤ 600390; omega), (by show _ ≤ 7289640; omega)⟩ dL_law_351 (fun r_73 ν_74 H locs hq_75 hP hS => ?_)
              obtain ⟨hq_75a, hq_75b⟩ := hq_75; subst r_73; subst ν_74
              refine lv_tope (y := 3) ((vOf hE323.1).trans e_of.1) ?_
              refine lv_iconst (v := 3) hx hb dL_law_354 (by decide) ?_
              refine lv_icmp_eq (tgt := 360) hx hb dL_law_355 (by decide) (fun c_355 => ?_) (fun c_355 => absurd (by decide) c_355)
              have hE360 : SE ν323 15 8 := hE323
              refine lv_aload_n hx hb dL_law_360 rfl (lv_at hl 1 rfl) ?_
              refine gcH (As := [.ref (ad 0)]) (2 * 6 + 441) S G (g_undo l cs hF hY hlt ν323) ckh_undo ml_RL_292 hP hS hl.1 ⟨by decide, by decide⟩ rfl (by rfl) (Nat.le_of_ble_eq_true rfl) ⟨by omega, (by show _ ≤ 600390; omega), (by show _ ≤ 7289640; omega)⟩ dL_law_361 (fun r_76 ν_77 H locs hq_78 hP hS => ?_)
              obtain ⟨hq_78a, hq_78b⟩ := hq_78
              obtain ⟨er361, ν361, hE361, hP⟩ := SE.unW hE360 hq_78a hq_78b hP
              refine lv_tope (y := 7) (er361.trans (by rfl)) ?_
              refine lv_bipush (v := 7) hx hb dL_law_364 (by decide) ?_
              refine lv_icmp_ne (tgt := 492) hx hb dL_law_366 (by decide) (fun c_366 => absurd (by decide) c_366) (fun c_366 => ?_)
              refine lv_aload_n hx hb dL_law_369 rfl (lv_at hl 1 rfl) ?_
              refine lv_iconst (v := 2) hx hb dL_law_370 (by decide) ?_
              refine gcH (As := [.ref (ad 0), .int 2]) (2 * 6 + 442) S G (g_account l cs hF hY hlt ν361 (2)) ckh_account ml_RL_201 hP hS hl.1 ⟨by decide, by decide⟩ rfl (by rfl) (Nat.le_of_ble_eq_true rfl) ⟨by omega, (by show _ ≤ 600390; omega), (by show _ ≤ 7289640; omega)⟩ dL_law_371 (fun r_79 ν_80 H locs hq_81 hP hS => ?_)
              obtain ⟨hq_81a, hq_81b⟩ := hq_81; subst r_79; subst ν_80
              refine lv_tope (y := 6) (hE361.ac.trans (by decide +kernel)) ?_
              refine lv_bipush (v := 6) hx hb dL_law_374 (by decide) ?_
              refine lv_icmp_ne (tgt := 492) hx hb dL_law_376 (by decide) (fun c_376 => absurd (by decide) c_376) (fun c_376 => ?_)
              refine lv_aload_n hx hb dL_law_379 rfl (lv_at hl 1 rfl) ?_
              refine lv_bipush (v := 6) hx hb dL_law_380 (by decide) ?_
              refine gcH (As := [.ref (ad 0), .int 6]) (2 * 6 + 443) S G (g_account l cs hF hY hlt ν361 (6)) ckh_account ml_RL_201 hP hS hl.1 ⟨by decide, by decide⟩ rfl (by rfl) (Nat.le_of_ble_eq_true rfl) ⟨by omega, (by show _ ≤ 600390; omega), (by show _ ≤ 7289640; omega)⟩ dL_law_382 (fun r_82 ν_83 H locs hq_84 hP hS => ?_)
              obtain ⟨hq_84a, hq_84b⟩ := hq_84; subst r_82; subst ν_83
              refine lv_tope (y := 12) (hE361.ac.trans (by decide +kernel)) ?_
              refine lv_bipush (v := 12) hx hb dL_law_385 (by decide) ?_
              refine lv_icmp_ne (tgt := 492) hx hb dL_law_387 (by decide) (fun c_387 => absurd (by decide) c_387) (fun c_387 => ?_)
              refine lv_aload_n hx hb dL_law_390 rfl (lv_at hl 1 rfl) ?_
              refine gcH (As := [.ref (ad 0)]) (2 * 6 + 444) S G (g_undo l cs hF hY hlt ν361) ckh_undo ml_RL_292 hP hS hl.1 ⟨by decide, by decide⟩ rfl (by rfl) (Nat.le_of_ble_eq_true rfl) ⟨by omega, (by show _ ≤ 600390; omega), (by show _ ≤ 7289640; omega)⟩ dL_law_391 (fun r_85 ν_86 H locs hq_87 hP hS => ?_)
              obtain ⟨hq_87a, hq_87b⟩ := hq_87
              obtain ⟨er391, ν391, hE391, hP⟩ := SE.unW hE361 hq_87a hq_87b hP
              refine lv_tope (y := 6) (er391.trans (by rfl)) ?_
              refine lv_bipush (v := 6) hx hb dL_law_394 (by decide) ?_
              refine lv_icmp_ne (tgt := 492) hx hb dL_law_396 (by decide) (fun c_396 => absurd (by decide) c_396) (fun c_396 => ?_)
              refine lv_aload_n hx hb dL_law_399 rfl (lv_at hl 1 rfl) ?_
              refine gcH (As := [.ref (ad 0)]) (2 * 6 + 445) S G (g_undo l cs hF hY hlt ν391) ckh_undo ml_RL_292 hP hS hl.1 ⟨by decide, by decide⟩ rfl (by rfl) (Nat.le_of_ble_eq_true rfl) ⟨by omega, (by show _ ≤ 600390; omega), (by show _ ≤ 7289640; omega)⟩ dL_law_400 (fun r_88 ν_89 H locs hq_90 hP hS => ?_)
              obtain ⟨hq_90a, hq_90b⟩ := hq_90
              obtain ⟨er400, ν400, hE400, hP⟩ := SE.unW hE391 hq_90a hq_90b hP
              refine lv_tope (y := 5) (er400.trans (by rfl)) ?_
              refine lv_iconst (v := 5) hx hb dL_law_403 (by decide) ?_
              refine lv_icmp_ne (tgt := 492) hx hb dL_law_404 (by decide) (fun c_404 => absurd (by decide) c_404) (fun c_404 => ?_)
              refine lv_aload_n hx hb dL_law_407 rfl (lv_at hl 1 rfl) ?_
              refine lv_bipush (v := 6) hx hb dL_law_408 (by decide) ?_
              refine gcH (As := [.ref (ad 0), .int 6]) (2 * 6 + 446) S G (g_account l cs hF hY hlt ν400 (6)) ckh_account ml_RL_201 hP hS hl.1 ⟨by decide, by decide⟩ rfl (by rfl) (Nat.le_of_ble_eq_true rfl) ⟨by omega, (by show _ ≤ 600390; omega), (by show _ ≤ 7289640; omega)⟩ dL_law_410 (fun r_91 ν_92 H locs hq_93 hP hS => ?_)
              obtain ⟨hq_93a, hq_93b⟩ := hq_93; subst r_91; subst ν_92
              refine lv_tope (y := 0) (hE400.ac.trans (by decide +kernel)) ?_
              refine lv_if_ne (tgt := 492) hx hb dL_law_413 (by decide) (fun c_413 => absurd (by decide) c_413) (fun c_413 => ?_)
              refine lv_aload_n hx hb dL_law_416 rfl (lv_at hl 1 rfl) ?_
              refine lv_iconst (v := 0) hx hb dL_law_417 (by decide) ?_
              refine lv_iconst (v := 1) hx hb dL_law_418 (by decide) ?_
              refine gcH (As := [.ref (ad 0), .int 0, .int 1]) (2 * 6 + 448) S G (g_of l cs hF hY hlt ν400 (0) (1)) ckh_of ml_RL_203 hP hS hl.1 ⟨by decide, by decide⟩ rfl (by rfl) (Nat.le_of_ble_eq_true rfl) ⟨by omega, (by show _ ≤ 600390; omega), (by show _ ≤ 7289640; omega)⟩ dL_law_419 (fun r_94 ν_95 H locs hq_96 hP hS => ?_)
              obtain ⟨hq_96a, hq_96b⟩ := hq_96; subst r_94; subst ν_95
              refine lv_tope (y := 0) ((vOf hE400.1).trans e_of.2) ?_
              refine lv_if_ne (tgt := 492) hx hb dL_law_422 (by decide) (fun c_422 => absurd (by decide) c_422) (fun c_422 => ?_)
              refine lv_aload_n hx hb dL_law_425 rfl (lv_at hl 1 rfl) ?_
              refine gcH (As := [.ref (ad 0)]) (2 * 6 + 449) S G (g_undo l cs hF hY hlt ν400) ckh_undo ml_RL_292 hP hS hl.1 ⟨by decide, by decide⟩ rfl (by rfl) (Nat.le_of_ble_eq_true rfl) ⟨by omega, (by show _ ≤ 600390; omega), (by show _ ≤ 7289640; omega)⟩ dL_law_426 (fun r_97 ν_98 H locs hq_99 hP hS => ?_)
              obtain ⟨hq_99a, hq_99b⟩ := hq_99
              obtain ⟨er426, ν426, hE426, hP⟩ := SE.unW hE400 hq_99a hq_99b hP
              refine lv_tope (y := 4) (er426.trans (by rfl)) ?_
              refine lv_iconst (v := 4) hx hb dL_law_429 (by decide) ?_
              refine lv_icmp_ne (tgt := 492) hx hb dL_law_430 (by decide) (fun c_430 => absurd (by decide) c_430) (fun c_430 => ?_)
              refine lv_aload_n hx hb dL_law_433 rfl (lv_at hl 1 rfl) ?_
              refine lv_iconst (v := 2) hx hb dL_law_434 (by decide) ?_
              refine gcH (As := [.ref (ad 0), .int 2]) (2 * 6 + 450) S G (g_account l cs hF hY hlt ν426 (2)) ckh_account ml_RL_201 hP hS hl.1 ⟨by decide, by decide⟩ rfl (by rfl) (Nat.le_of_ble_eq_true rfl) ⟨by omega, (by show _ ≤ 600390; omega), (by show _ ≤ 7289640; omega)⟩ dL_law_435 (fun r_100 ν_101 H locs hq_102 hP hS => ?_)
              obtain ⟨hq_102a, hq_102b⟩ := hq_102; subst r_100; subst ν_101
              refine lv_tope (y := 5) (hE426.ac.trans (by decide +kernel)) ?_
              refine lv_iconst (v := 5) hx hb dL_law_438 (by decide) ?_
              refine lv_icmp_ne (tgt := 492) hx hb dL_law_439 (by decide) (fun c_439 => absurd (by decide) c_439) (fun c_439 => ?_)
              refine lv_aload_n hx hb dL_law_442 rfl (lv_at hl 1 rfl) ?_
              refine gcH (As := [.ref (ad 0)]) (2 * 6 + 451) S G (g_undo l cs hF hY hlt ν426) ckh_undo ml_RL_292 hP hS hl.1 ⟨by decide, by decide⟩ rfl (by rfl) (Nat.le_of_ble_eq_true rfl) ⟨by omega, (by show _ ≤ 600390; omega), (by show _ ≤ 7289640; omega)⟩ dL_law_443 (fun r_103 ν_104 H locs hq_105 hP hS => ?_)
              obtain ⟨hq_105a, hq_105b⟩ := hq_105
              obtain ⟨er443, ν443, hE443, hP⟩ := SE.unW hE426 hq_105a hq_105b hP
              refine lv_tope (y := 3) (er443.trans (by rfl)) ?_
              refine lv_iconst (v := 3) hx hb dL_law_446 (by decide) ?_
              refine lv_icmp_ne (tgt := 492) hx hb dL_law_447 (by decide) (fun c_447 => absurd (by decide) c_447) (fun c_447 => ?_)
              refine lv_aload_n hx hb dL_law_450 rfl (lv_at hl 1 rfl) ?_
              refine gcH (As := [.ref (ad 0)]) (2 * 6 + 452) S G (g_undo l cs hF hY hlt ν443) ckh_undo ml_RL_292 hP hS hl.1 ⟨by decide, by decide⟩ rfl (by rfl) (Nat.le_of_ble_eq_true rfl) ⟨by omega, (by show _ ≤ 600390; omega), (by show _ ≤ 7289640; omega)⟩ dL_law_451 (fun r_106 ν_107 H locs hq_108 hP hS => ?_)
              obtain ⟨hq_108a, hq_108b⟩ := hq_108
              obtain ⟨er451, ν451, hE451, hP⟩ := SE.unW hE443 hq_108a hq_108b hP
              refine lv_tope (y := 2) (er451.trans (by rfl)) ?_
              refine lv_iconst (v := 2) hx hb dL_law_454 (by decide) ?_
              refine lv_icmp_ne (tgt := 492) hx hb dL_law_455 (by decide) (fun c_455 => absurd (by decide) c_455) (fun c_455 => ?_)
              refine lv_aload_n hx hb dL_law_458 rfl (lv_at hl 1 rfl) ?_
              refine gcH (As := [.ref (ad 0)]) (2 * 6 + 453) S G (g_undo l cs hF hY hlt ν451) ckh_undo ml_RL_292 hP hS hl.1 ⟨by decide, by decide⟩ rfl (by rfl) (Nat.le_of_ble_eq_true rfl) ⟨by omega, (by show _ ≤ 600390; omega), (by show _ ≤ 7289640; omega)⟩ dL_law_459 (fun r_109 ν_110 H locs hq_111 hP hS => ?_)
              obtain ⟨hq_111a, hq_111b⟩ := hq_111
              obtain ⟨er459, ν459, hE459, hP⟩ := SE.unW hE451 hq_111a hq_111b hP
              refine lv_tope (y := 1) (er459.trans (by rfl)) ?_
              refine lv_iconst (v := 1) hx hb dL_law_462 (by decide) ?_
              refine lv_icmp_ne (tgt := 492) hx hb dL_law_463 (by decide) (fun c_463 => absurd (by decide) c_463) (fun c_463 => ?_)
              refine lv_aload_n hx hb dL_law_466 rfl (lv_at hl 1 rfl) ?_
              refine gcH (As := [.ref (ad 0)]) (2 * 6 + 454) S G (g_undo l cs hF hY hlt ν459) ckh_undo ml_RL_292 hP hS hl.1 ⟨by decide, by decide⟩ rfl (by rfl) (Nat.le_of_ble_eq_true rfl) ⟨by omega, (by show _ ≤ 600390; omega), (by show _ ≤ 7289640; omega)⟩ dL_law_467 (fun r_112 ν_113 H locs hq_114 hP hS => ?_)
              obtain ⟨hq_114a, hq_114b⟩ := hq_114
              obtain ⟨er467, ν467, hE467, hP⟩ := SE.unW hE459 hq_114a hq_114b hP
              refine lv_tope (y := 0) (er467.trans (by rfl)) ?_
              refine lv_if_ne (tgt := 492) hx hb dL_law_470 (by decide) (fun c_470 => absurd (by decide) c_470) (fun c_470 => ?_)
              refine lv_aload_n hx hb dL_law_473 rfl (lv_at hl 1 rfl) ?_
              refine lv_iconst (v := 2) hx hb dL_law_474 (by decide) ?_
              refine gcH (As := [.ref (ad 0), .int 2]) (2 * 6 + 455) S G (g_account l cs hF hY hlt ν467 (2)) ckh_account ml_RL_201 hP hS hl.1 ⟨by decide, by decide⟩ rfl (by rfl) (Nat.le_of_ble_eq_true rfl) ⟨by omega, (by show _ ≤ 600390; omega), (by show _ ≤ 7289640; omega)⟩ dL_law_475 (fun r_115 ν_116 H locs hq_117 hP hS => ?_)
              obtain ⟨hq_117a, hq_117b⟩ := hq_117; subst r_115; subst ν_116
              refine lv_tope (y := 1) (hE467.ac.trans (by decide +kernel)) ?_
              refine lv_iconst (v := 1) hx hb dL_law_478 (by decide) ?_
              refine lv_icmp_ne (tgt := 492) hx hb dL_law_479 (by decide) (fun c_479 => absurd (by decide) c_479) (fun c_479 => ?_)
              refine lv_aload_n hx hb dL_law_482 rfl (lv_at hl 1 rfl) ?_
              refine gcH (As := [.ref (ad 0)]) (2 * 6 + 456) S G (g_undo l cs hF hY hlt ν467) ckh_undo ml_RL_292 hP hS hl.1 ⟨by decide, by decide⟩ rfl (by rfl) (Nat.le_of_ble_eq_true rfl) ⟨by omega, (by show _ ≤ 600390; omega), (by show _ ≤ 7289640; omega)⟩ dL_law_483 (fun r_118 ν_119 H locs hq_120 hP hS => ?_)
              obtain ⟨hq_120a, hq_120b⟩ := hq_120
              have er483 := hq_120a.trans hE467.uz.1
              have hE483 : SE ν_119 7 0 := by rw [hq_120b, hE467.uz.2]; exact hE467
              refine lv_tope (y := (-1001)) er483 ?_
              refine lv_sipush (v := (-1001)) hx hb dL_law_486 (by decide) ?_
              refine lv_icmp_eq (tgt := 494) hx hb dL_law_489 (by decide) (fun c_489 => ?_) (fun c_489 => absurd (by decide) c_489)
              refine lv_aload_n hx hb dL_law_494 rfl (lv_at hl 1 rfl) ?_
              refine gcH (As := [.ref (ad 0)]) (2 * 6 + 457) S G (g_restore l cs hF hY hlt ν_119) ckh_restore ml_RL_294 hP hS hl.1 ⟨by decide, by decide⟩ rfl (by rfl) (Nat.le_of_ble_eq_true rfl) ⟨by omega, (by show _ ≤ 600390; omega), (by show _ ≤ 7289640; omega)⟩ dL_law_495 (fun r_121 ν_122 H locs hq_123 hP hS => ?_)
              obtain ⟨hq_123a, hq_123b⟩ := hq_123
              obtain ⟨er495, ν495, hE495, hP⟩ := SE.rsW hE483 hq_123a hq_123b hP
              refine lv_tope (y := 0) er495 ?_
              refine lv_if_ne (tgt := 527) hx hb dL_law_498 (by decide) (fun c_498 => absurd (by decide) c_498) (fun c_498 => ?_)
              refine lv_aload_n hx hb dL_law_501 rfl (lv_at hl 1 rfl) ?_
              refine lv_iconst (v := 0) hx hb dL_law_502 (by decide) ?_
              refine gcH (As := [.ref (ad 0), .int 0]) (2 * 6 + 458) S G (g_account l cs hF hY hlt ν495 (0)) ckh_account ml_RL_201 hP hS hl.1 ⟨by decide, by decide⟩ rfl (by rfl) (Nat.le_of_ble_eq_true rfl) ⟨by omega, (by show _ ≤ 600390; omega), (by show _ ≤ 7289640; omega)⟩ dL_law_503 (fun r_124 ν_125 H locs hq_126 hP hS => ?_)
              obtain ⟨hq_126a, hq_126b⟩ := hq_126; subst r_124; subst ν_125
              refine lv_tope (y := 0) (hE495.ac.trans (by decide +kernel)) ?_
              refine lv_if_ne (tgt := 527) hx hb dL_law_506 (by decide) (fun c_506 => absurd (by decide) c_506) (fun c_506 => ?_)
              refine lv_aload_n hx hb dL_law_509 rfl (lv_at hl 1 rfl) ?_
              refine lv_iconst (v := 2) hx hb dL_law_510 (by decide) ?_
              refine gcH (As := [.ref (ad 0), .int 2]) (2 * 6 + 459) S G (g_account l cs hF hY hlt ν495 (2)) ckh_account ml_RL_201 hP hS hl.1 ⟨by decide, by decide⟩ rfl (by rfl) (Nat.le_of_ble_eq_true rfl) ⟨by omega, (by show _ ≤ 600390; omega), (by show _ ≤ 7289640; omega)⟩ dL_law_511 (fun r_127 ν_128 H locs hq_129 hP hS => ?_)
              obtain ⟨hq_129a, hq_129b⟩ := hq_129; subst r_127; subst ν_128
              refine lv_tope (y := 0) (hE495.ac.trans (by decide +kernel)) ?_
              refine lv_if_ne (tgt := 527) hx hb dL_law_514 (by decide) (fun c_514 => absurd (by decide) c_514) (fun c_514 => ?_)
              refine lv_aload_n hx hb dL_law_517 rfl (lv_at hl 1 rfl) ?_
              refine gcH (As := [.ref (ad 0)]) (2 * 6 + 460) S G (g_undo l cs hF hY hlt ν495) ckh_undo ml_RL_292 hP hS hl.1 ⟨by decide, by decide⟩ rfl (by rfl) (Nat.le_of_ble_eq_true rfl) ⟨by omega, (by show _ ≤ 600390; omega), (by show _ ≤ 7289640; omega)⟩ dL_law_518 (fun r_130 ν_131 H locs hq_132 hP hS => ?_)
              obtain ⟨hq_132a, hq_132b⟩ := hq_132
              have er518 := hq_132a.trans hE495.uz.1
              have hE518 : SE ν_131 0 0 := by rw [hq_132b, hE495.uz.2]; exact hE495
              refine lv_tope (y := (-1001)) er518 ?_
              refine lv_sipush (v := (-1001)) hx hb dL_law_521 (by decide) ?_
              refine lv_icmp_eq (tgt := 529) hx hb dL_law_524 (by decide) (fun c_524 => ?_) (fun c_524 => absurd (by decide) c_524)
              refine W.widen (k := 600) (n := 6 * 600) (by omega) (by omega) ?_
              exact kE ν_131 _ _ _ hP hS (lv_sub (l' := [(1, .ref (ad 0)), (0, .ref b)]) hl [1, 2] rfl)
            | succ d ih =>
              intro k hk ν hν H locs ls hP hS hl
              have hkn : k < 6 := by omega
              refine lv_iload_n hx hb dL_law_224 rfl (lv_at hl 0 rfl) ?_
              refine lv_bipush (v := 6) hx hb dL_law_225 (by decide) ?_
              refine lv_icmp_ge (tgt := 254) hx hb dL_law_227 (by decide) (fun c_227 => absurd c_227 (nI_ge (b := 6) (by omega) (by decide))) (fun c_227 => ?_)
              refine lv_aload_n hx hb dL_law_230 rfl (lv_at hl 1 rfl) ?_
              refine lv_iload_n hx hb dL_law_231 rfl (lv_at hl 0 rfl) ?_
              refine lv_iload_n hx hb dL_law_232 rfl (lv_at hl 0 rfl) ?_
              refine lv_iconst (v := 1) hx hb dL_law_233 (by decide) ?_
              refine nadd hx hb k 1 dL_law_234 rfl (by decide) ?_
              refine lv_bipush (v := 6) hx hb dL_law_235 (by decide) ?_
              refine nrem hx hb (k + 1) 6 dL_law_237 rfl (by decide) (by omega) (by omega) (by omega) ?_
              refine lv_iconst (v := 3) hx hb dL_law_238 (by decide) ?_
              refine gcH (As := [.ref (ad 0), .int (nI k), .int (nI ((k + 1) % 6)), .int 3]) (2 * k + 422) S G (g_beam l cs hF hY hlt ν (nI k) (nI ((k + 1) % 6)) (3)) ckh_beam ml_RL_174 hP hS hl.1 ⟨by decide, by decide⟩ rfl (by rfl) (Nat.le_of_ble_eq_true rfl) ⟨by omega, (by show _ ≤ 600390; omega), (by show _ ≤ 7289640; omega)⟩ dL_law_239 (fun r_133 ν_134 H locs hq_135 hP hS => ?_)
              obtain ⟨hq_135a, hq_135b⟩ := hq_135
              obtain ⟨er239, ν239, hE239, hP⟩ := SE.chW hν (e_be k hkn) hq_135a hq_135b hP
              refine lv_tope (y := nI k) er239 ?_
              refine lv_iload_n hx hb dL_law_242 rfl (lv_at hl 0 rfl) ?_
              refine lv_icmp_eq (tgt := 248) hx hb dL_law_243 (by decide) (fun c_243 => ?_) (fun c_243 => absurd rfl c_243)
              refine lv_iinc (v := nI (k + 1)) (lv' := [(2, .int (nI (k + 1))), (1, .ref (ad 0)), (0, .ref b)]) hx hb dL_law_248 hl (k := 0) rfl (nI_inc _) (by decide) rfl (fun ls hl => ?_)
              refine lv_goto (tgt := 224) hx hb dL_law_251 (by decide) ?_
              refine W.widen (k := (2 * (k + 1) + 420)) (n := 6 * (2 * (k + 1) + 420)) (by omega) (by omega) ?_
              exact ih (k + 1) (by omega) _ hE239 _ _ _ hP hS (lv_v (lv_sub (l' := [(2, .int (nI (k + 1))), (1, .ref (ad 0)), (0, .ref b)]) hl [0, 1, 2] rfl) rfl)
          refine W.widen (k := (2 * 0 + 420)) (n := 6 * (2 * 0 + 420)) (by omega) (by omega) ?_
          exact key_224 6 0 (by omega) _ hE164 _ _ _ hP hS (lv_v (lv_sub (l' := [(2, .int 0), (1, .ref (ad 0)), (0, .ref b)]) hl [0, 1, 2] rfl) rfl)
        | succ d ih =>
          intro k hk ν hν H locs ls hP hS hl
          have hkn : k < 6 := by omega
          refine lv_iload_n hx hb dL_law_121 rfl (lv_at hl 0 rfl) ?_
          refine lv_bipush (v := 6) hx hb dL_law_122 (by decide) ?_
          refine lv_icmp_ge (tgt := 161) hx hb dL_law_124 (by decide) (fun c_124 => absurd c_124 (nI_ge (b := 6) (by omega) (by decide))) (fun c_124 => ?_)
          refine lv_aload_n hx hb dL_law_127 rfl (lv_at hl 1 rfl) ?_
          refine lv_iconst (v := 4) hx hb dL_law_128 (by decide) ?_
          refine lv_iload_n hx hb dL_law_129 rfl (lv_at hl 0 rfl) ?_
          refine nmul hx hb 4 k dL_law_130 (by decide) rfl ?_
          refine lv_bipush (v := 8) hx hb dL_law_131 (by decide) ?_
          refine lv_isub hx hb dL_law_133 ?_
          refine lv_iload_n hx hb dL_law_134 rfl (lv_at hl 0 rfl) ?_
          refine lv_iconst (v := 2) hx hb dL_law_135 (by decide) ?_
          refine nrem hx hb k 2 dL_law_136 rfl (by decide) (by omega) (by omega) (by omega) ?_
          refine lv_iconst (v := 1) hx hb dL_law_137 (by decide) ?_
          refine lv_icmp_ne (tgt := 145) hx hb dL_law_138 (by decide) (fun c_138 => ?_) (fun c_138 => ?_)
          · refine lv_iconst (v := 0) hx hb dL_law_145 (by decide) ?_
            refine gcH (As := [.ref (ad 0), .int ((nI (4 * k)) - 8), .int 0]) (2 * k + 382) S G (g_person l cs hF hY hlt ν ((nI (4 * k)) - 8) (0)) ckh_person ml_RL_168 hP hS hl.1 ⟨by decide, by decide⟩ rfl (by rfl) (Nat.le_of_ble_eq_true rfl) ⟨by omega, (by show _ ≤ 600390; omega), (by show _ ≤ 7289640; omega)⟩ dL_law_146 (fun r_136 ν_137 H locs hq_138 hP hS => ?_)
            obtain ⟨hq_138a, hq_138b⟩ := hq_138
            obtain ⟨er146, ν146, hE146, hP⟩ := SE.chW hν (e_pb k hkn c_138) hq_138a hq_138b hP
            refine lv_tope (y := nI k) er146 ?_
            refine lv_iload_n hx hb dL_law_149 rfl (lv_at hl 0 rfl) ?_
            refine lv_icmp_eq (tgt := 155) hx hb dL_law_150 (by decide) (fun c_150 => ?_) (fun c_150 => absurd rfl c_150)
            refine lv_iinc (v := nI (k + 1)) (lv' := [(2, .int (nI (k + 1))), (1, .ref (ad 0)), (0, .ref b)]) hx hb dL_law_155 hl (k := 0) rfl (nI_inc _) (by decide) rfl (fun ls hl => ?_)
            refine lv_goto (tgt := 121) hx hb dL_law_158 (by decide) ?_
            refine W.widen (k := (2 * (k + 1) + 380)) (n := 6 * (2 * (k + 1) + 380)) (by omega) (by omega) ?_
            exact ih (k + 1) (by omega) _ hE146 _ _ _ hP hS (lv_v (lv_sub (l' := [(2, .int (nI (k + 1))), (1, .ref (ad 0)), (0, .ref b)]) hl [0, 1, 2] rfl) rfl)
          · refine lv_iconst (v := 1) hx hb dL_law_141 (by decide) ?_
            refine lv_goto (tgt := 146) hx hb dL_law_142 (by decide) ?_
            refine gcH (As := [.ref (ad 0), .int ((nI (4 * k)) - 8), .int 1]) (2 * k + 382) S G (g_person l cs hF hY hlt ν ((nI (4 * k)) - 8) (1)) ckh_person ml_RL_168 hP hS hl.1 ⟨by decide, by decide⟩ rfl (by rfl) (Nat.le_of_ble_eq_true rfl) ⟨by omega, (by show _ ≤ 600390; omega), (by show _ ≤ 7289640; omega)⟩ dL_law_146 (fun r_139 ν_140 H locs hq_141 hP hS => ?_)
            obtain ⟨hq_141a, hq_141b⟩ := hq_141
            obtain ⟨er146, ν146, hE146, hP⟩ := SE.chW hν (e_pa k hkn c_138) hq_141a hq_141b hP
            refine lv_tope (y := nI k) er146 ?_
            refine lv_iload_n hx hb dL_law_149 rfl (lv_at hl 0 rfl) ?_
            refine lv_icmp_eq (tgt := 155) hx hb dL_law_150 (by decide) (fun c_150 => ?_) (fun c_150 => absurd rfl c_150)
            refine lv_iinc (v := nI (k + 1)) (lv' := [(2, .int (nI (k + 1))), (1, .ref (ad 0)), (0, .ref b)]) hx hb dL_law_155 hl (k := 0) rfl (nI_inc _) (by decide) rfl (fun ls hl => ?_)
            refine lv_goto (tgt := 121) hx hb dL_law_158 (by decide) ?_
            refine W.widen (k := (2 * (k + 1) + 380)) (n := 6 * (2 * (k + 1) + 380)) (by omega) (by omega) ?_
            exact ih (k + 1) (by omega) _ hE146 _ _ _ hP hS (lv_v (lv_sub (l' := [(2, .int (nI (k + 1))), (1, .ref (ad 0)), (0, .ref b)]) hl [0, 1, 2] rfl) rfl)
      refine W.widen (k := (2 * 0 + 380)) (n := 6 * (2 * 0 + 380)) (by omega) (by omega) ?_
      exact key_121 6 0 (by omega) _ hE32.cm.2.1 _ _ _ hP hS (lv_v (lv_sub (l' := [(2, .int 0), (1, .ref (ad 0)), (0, .ref b)]) hl [0, 1, 2] rfl) rfl)
    | succ d ih =>
      intro k hk  H locs ls hP hS hl
      have hkn : k < 60 := by omega
      refine lv_iload_n hx hb dL_law_39 rfl (lv_at hl 0 rfl) ?_
      refine lv_bipush (v := 60) hx hb dL_law_40 (by decide) ?_
      refine lv_icmp_ge (tgt := 68) hx hb dL_law_42 (by decide) (fun c_42 => absurd c_42 (nI_ge (b := 60) (by omega) (by decide))) (fun c_42 => ?_)
      refine lv_aload_n hx hb dL_law_45 rfl (lv_at hl 1 rfl) ?_
      refine lv_bipush (v := 65) hx hb dL_law_46 (by decide) ?_
      refine lv_iload_n hx hb dL_law_48 rfl (lv_at hl 0 rfl) ?_
      refine nadd hx hb 65 k dL_law_49 (by decide) rfl ?_
      refine lv_i2c (v := nI (65 + k)) hx hb dL_law_50 (e_ch k hkn).1 ?_
      refine gcH (As := [.ref (ad 0), .int (nI (65 + k))]) (1 * k + 307) S G (g_append l cs hF hY hlt (txK ν32 eXF k) (nI (65 + k)) (e_ch k hkn).2) ckh_append ml_RL_144 hP hS hl.1 ⟨by decide, by decide⟩ rfl (by rfl) (Nat.le_of_ble_eq_true rfl) ⟨by omega, (by show _ ≤ 600390; omega), (by show _ ≤ 7289640; omega)⟩ dL_law_51 (fun r_142 ν_143 H locs hq_144 hP hS => ?_)
      obtain ⟨hq_144a, hq_144b⟩ := hq_144; subst r_142; subst ν_143
      replace hP := wG_e hP (show _ = txK ν32 eXF (k + 1) from (ap_tx hE32.L hkn).2)
      refine lv_tope (y := nI (k + 1)) (ap_tx hE32.L hkn).1 ?_
      refine lv_iload_n hx hb dL_law_54 rfl (lv_at hl 0 rfl) ?_
      refine lv_iconst (v := 1) hx hb dL_law_55 (by decide) ?_
      refine nadd hx hb k 1 dL_law_56 rfl (by decide) ?_
      refine lv_icmp_eq (tgt := 62) hx hb dL_law_57 (by decide) (fun c_57 => ?_) (fun c_57 => absurd rfl c_57)
      refine lv_iinc (v := nI (k + 1)) (lv' := [(2, .int (nI (k + 1))), (1, .ref (ad 0)), (0, .ref b)]) hx hb dL_law_62 hl (k := 0) rfl (nI_inc _) (by decide) rfl (fun ls hl => ?_)
      refine lv_goto (tgt := 39) hx hb dL_law_65 (by decide) ?_
      refine W.widen (k := (1 * (k + 1) + 306)) (n := 6 * (1 * (k + 1) + 306)) (by omega) (by omega) ?_
      exact ih (k + 1) (by omega)  _ _ _ hP hS (lv_v (lv_sub (l' := [(2, .int (nI (k + 1))), (1, .ref (ad 0)), (0, .ref b)]) hl [0, 1, 2] rfl) rfl)
  refine W.widen (k := (1 * 0 + 306)) (n := 6 * (1 * 0 + 306)) (by omega) (by omega) ?_
  exact key_39 60 0 (by omega)  _ _ _ hP hS (lv_v (lv_sub (l' := [(2, .int 0), (1, .ref (ad 0)), (0, .ref b)]) hl [0, 1, 2] rfl) rfl)

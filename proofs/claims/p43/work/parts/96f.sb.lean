/-! texts put together by the JDK's builder (laid by wip/p43/spec_sb.py) -/
theorem shr0 {x : Int32} : x >>> ((0 : Int32) &&& 31) = x := by
  rw [show (0 : Int32) &&& 31 = 0 from by decide]
  exact Int32.shiftRight_zero
theorem shl0 {x : Int32} : x <<< ((0 : Int32) &&& 31) = x := by
  rw [show (0 : Int32) &&& 31 = 0 from by decide]
  exact Int32.shiftLeft_zero
theorem nI_dec (k : Nat) : nI (k + 1) + Int32.ofInt (-1) = nI k := by
  rw [← nI_pred k, Int32.sub_eq_add_neg]
  rfl
theorem dg_nar : ∀ d : Nat, d < 10 → vp_nar .byte (dgO d) = dgO d := by decide +kernel
theorem str_fits : ∀ i : Nat, i < 14 → ∀ j : Nat, j < strL.getD i 0 → fits .byte (.int ((strB.getD i []).getD j 0)) = true := by decide +kernel
theorem str_fit {i j : Nat} (hi : i < 14) (hj : j < strL.getD i 0) : fits .byte (.int ((strB.getD i []).getD j 0)) = true := str_fits i hi j hj
theorem strL_8 : ∀ i : Nat, i < 14 → strL.getD i 0 ≤ 8 := by decide +kernel
theorem nI_s0 {a b : Nat} (h : a ≤ b) (hb : b < 1000) : nI a - nI b ≤ 0 := by
  rw [Int32.le_iff_toInt_le, Int32.toInt_sub, nI_toInt (by omega), nI_toInt (by omega)]
  rw [bmod_s (by omega) (by omega)]
  show (a : Int) - b ≤ 0
  omega
theorem ss_neg : ∀ d : Nat, d < 10 → ¬ (-(nI d)) ≤ -10 := by decide +kernel
theorem gc_neg : ∀ d : Nat, d < 10 → (-100 : Int32) < -(nI d) := by decide +kernel
theorem gc_ge : ∀ d : Nat, d < 10 → (-9 : Int32) ≤ -(nI d) := by decide +kernel
theorem gc_nn : ∀ d : Nat, d < 10 → - -(nI d) = nI d := by decide +kernel
theorem mn_n : ∀ n : Nat, n < 16 → mnI (nI 16) (nI n) = nI n := by decide +kernel
theorem cr_ne : ∀ n : Nat, n < 16 → ¬ nI n = nI 16 := by decide +kernel
theorem kb_yJ0_coder_7d493 : COB yJ0_coder_7d493 cJ0_coder_7d493 1 (Option.some FieldType.byte) 0 := ⟨in_RJ0, co_yJ0_coder_7d493, ⟨by decide +kernel, by decide +kernel, by decide +kernel⟩, by decide⟩
set_option maxHeartbeats 4000000 in
set_option maxRecDepth 100000 in
theorem b_J0_coder_7d493 (l : Launch) {D : va_G} {ct : Nat → ClassId} {N0 : Nat} {F : State → Prop} {ek : Nat → Nat} (cs : Nat → Nat) {dg : Nat} (hF : ∀ U, F U → FX ek cs N0 U) (hZ : ∀ U, F U → SBF dg N0 U) (ws : va_W) (i : Nat) (hi : i < 14) :
    MB l yJ0_coder_7d493 cJ0_coder_7d493 1 (Option.some FieldType.byte) 1 0 D ct N0 F [.ref (cs i)] ws (fun _ => some (.int 0)) (fun _ => ws) := by
  refine msB (own := RJ0) (by decide +kernel) rfl (Nat.le_of_ble_eq_true rfl) (fun p e s m args below meth c S hr hlocks hmn X0 hP hD hS ls hl => ?_)
  have hx := S.1
  have hb := S.2.1
  have FC := hF s X0.2.2.2.2.2
  have FZ := hZ s X0.2.2.2.2.2
  replace hl : lv_has ls 1 [(0, .ref (cs i))] := hl
  refine va_gets (A := fr N0) hx hb FC.comp hS S.2.2.2.1 (S.2.2.2.2 _ fl_RJ0_38) (fun _ h => h) dJ0_coder_7d493_0 ?_
  refine lv_if_eq (tgt := 13) hx hb dJ0_coder_7d493_3 (by decide) (fun c_3 => absurd c_3 (by decide)) (fun c_3 => ?_)
  refine lv_aload_n hx hb dJ0_coder_7d493_6 rfl (lv_at hl 0 rfl) ?_
  refine vk_getf (A := fr N0) hx hb (FC.str.1 i hi).2.1 hS S.2.2.2.1 (S.2.2.2.2 _ fl_RJ0_15) (fun _ h => h) dJ0_coder_7d493_7 ?_
  refine lv_goto (tgt := 14) hx hb dJ0_coder_7d493_10 (by decide) ?_
  refine eBz (L := (fun _ => ws)) (fun _ => 0) S hr hlocks hP hD hS ?_ (by decide) dJ0_coder_7d493_14
  exact ⟨(by first | decide | (show _ ≤ 0; omega)), (by first | decide | (show _ ≤ 6 * 0; omega))⟩

theorem kb_yJ0_length_8abf5 : COB yJ0_length_8abf5 cJ0_length_8abf5 1 (Option.some FieldType.int) 0 := ⟨in_RJ0, co_yJ0_length_8abf5, ⟨by decide +kernel, by decide +kernel, by decide +kernel⟩, by decide⟩
set_option maxHeartbeats 4000000 in
set_option maxRecDepth 100000 in
theorem b_J0_length_8abf5 (l : Launch) {D : va_G} {ct : Nat → ClassId} {N0 : Nat} {F : State → Prop} {ek : Nat → Nat} (cs : Nat → Nat) {dg : Nat} (hF : ∀ U, F U → FX ek cs N0 U) (hZ : ∀ U, F U → SBF dg N0 U) (ws : va_W) (i : Nat) (hi : i < 14) :
    MB l yJ0_length_8abf5 cJ0_length_8abf5 1 (Option.some FieldType.int) 2 0 D ct N0 F [.ref (cs i)] ws (fun _ => some (.int (nI (strL.getD i 0)))) (fun _ => ws) := by
  refine msB (own := RJ0) (by decide +kernel) rfl (Nat.le_of_ble_eq_true rfl) (fun p e s m args below meth c S hr hlocks hmn X0 hP hD hS ls hl => ?_)
  have hx := S.1
  have hb := S.2.1
  have FC := hF s X0.2.2.2.2.2
  have FZ := hZ s X0.2.2.2.2.2
  replace hl : lv_has ls 1 [(0, .ref (cs i))] := hl
  refine lv_aload_n hx hb dJ0_length_8abf5_0 rfl (lv_at hl 0 rfl) ?_
  refine vk_getf (A := fr N0) hx hb (FC.str.1 i hi).2.2.1 hS S.2.2.2.1 (S.2.2.2.2 _ fl_RJ0_9) (fun _ h => h) dJ0_length_8abf5_1 ?_
  refine va_tlen (A := fr N0) (v := nI (strL.getD i 0)) hx hb (FC.str.1 i hi).2.2.2 hS rfl dJ0_length_8abf5_4 ?_
  refine lv_aload_n hx hb dJ0_length_8abf5_5 rfl (lv_at hl 0 rfl) ?_
  refine bV (As := []) (C := RJ0) S X0 (b_J0_coder_7d493 l cs hF hZ ws i hi) kb_yJ0_coder_7d493 ml_RJ0_335 im_yJ0_coder_7d493 (S.2.2.2.2 _ se_RJ0_yJ0_coder_7d493) (vk_recv FC.str hi hS) hP hD hS hl.1 ⟨by decide, by decide⟩ rfl (by rfl) (Nat.le_of_ble_eq_true rfl) ⟨(by first | decide | (show _ ≤ 0; omega)), (by first | decide | (show _ ≤ 6 * 0; omega))⟩ dJ0_length_8abf5_6 (fun _ H locs hP hD hS => ?_)
  refine lv_ishr hx hb dJ0_length_8abf5_9 ?_
  refine lv_tope (y := nI (strL.getD i 0)) shr0 ?_
  refine eBi (L := (fun _ => ws)) (fun _ => 0) S hr hlocks hP hD hS ?_ dJ0_length_8abf5_10
  exact ⟨(by first | decide | (show _ ≤ 0; omega)), (by first | decide | (show _ ≤ 6 * 0; omega))⟩

theorem kb_yJ5_init_d00df : COB yJ5_init_d00df cJ5_init_d00df 2 (Option.none : Option FieldType) 1 := ⟨in_RJ5, co_yJ5_init_d00df, ⟨by decide +kernel, by decide +kernel, by decide +kernel⟩, by decide⟩
set_option maxHeartbeats 4000000 in
set_option maxRecDepth 100000 in
theorem b_J5_init_d00df (l : Launch) {D : va_G} {ct : Nat → ClassId} {N0 : Nat} {F : State → Prop} {ek : Nat → Nat} (cs : Nat → Nat) {dg : Nat} (hF : ∀ U, F U → FX ek cs N0 U) (hZ : ∀ U, F U → SBF dg N0 U) (B : va_W) (q : Nat) :
    MB l yJ5_init_d00df cJ5_init_d00df 2 (Option.none : Option FieldType) 1 3 D ct N0 F [.ref q, .int 16] (B ++ [(q, .inr (9, [.null, .int 0, .int 0, .int 0]))]) (fun _ => none) (fun g => B ++ [(q, .inr (9, [.ref (g 0), .int 0, .int 0, .int 0])), ((g 0), .inl (ct 7, 16, .inl (fun _ => 0)))]) := by
  refine msB (own := RJ5) (by decide +kernel) rfl (Nat.le_of_ble_eq_true rfl) (fun p e s m args below meth c S hr hlocks hmn X0 hP hD hS ls hl => ?_)
  have hx := S.1
  have hb := S.2.1
  have FC := hF s X0.2.2.2.2.2
  have FZ := hZ s X0.2.2.2.2.2
  replace hl : lv_has ls 2 [(0, .ref q), (1, .int 16)] := hl
  refine lv_aload_n hx hb dJ5_init_d00df_0 rfl (lv_at hl 0 rfl) ?_
  refine oI S ml_RJ5_3 hl.1 ⟨by decide, by decide⟩ dJ5_init_d00df_1 ?_
  refine va_gets (A := fr N0) hx hb FC.comp hS S.2.2.2.1 (S.2.2.2.2 _ fl_RJ5_18) (fun _ h => h) dJ5_init_d00df_4 ?_
  refine lv_if_eq (tgt := 25) hx hb dJ5_init_d00df_7 (by decide) (fun c_7 => absurd c_7 (by decide)) (fun c_7 => ?_)
  refine lv_aload_n hx hb dJ5_init_d00df_10 rfl (lv_at hl 0 rfl) ?_
  refine lv_iload_n hx hb dJ5_init_d00df_11 rfl (lv_at hl 1 rfl) ?_
  refine nA 7 S X0 hP hD hS (atype := .byte) (ty := .byte) (a0 := (16, .inl (fun _ => 0))) (N' := 16) rfl ac_byte rfl (fun _ _ h => h) (fun _ => rfl) (by first | decide | exact nI_pos (by omega)) (by first | decide | exact nI_clamp (by omega)) (by show _ * 1 ≤ _; omega) ⟨(by first | decide | (show _ ≤ 3; omega)), (by first | decide | (show _ ≤ 6 * 3; omega))⟩ dJ5_init_d00df_12 (fun v_1 H hP hD hS => ?_)
  rw [List.append_assoc] at hP hD
  replace hP : va_P D vcl (B ++ [(q, .inr (9, [.null, .int 0, .int 0, .int 0])), (v_1, .inl (ct 7, 16, .inl (fun _ => 0)))]) H := hP
  replace hD : va_D (fr N0) (B ++ [(q, .inr (9, [.null, .int 0, .int 0, .int 0])), (v_1, .inl (ct 7, 16, .inl (fun _ => 0)))]) := hD
  refine bput (C := RJ4) (T := TJ4) (N := 4) (lw' := [(q, .inr (9, [.ref v_1, .int 0, .int 0, .int 0])), (v_1, .inl (ct 7, 16, .inl (fun _ => 0)))]) 0 0 S X0 hP hD hS tyJ4 tyJ4_ok nmJ4 rfl inJ4 fl_RJ5_15 rfl rfl (by decide) rfl rfl rfl (Nat.le_of_ble_eq_true rfl) dJ5_init_d00df_14 (fun H locs hP hD hS => ?_)
  refine lv_aload_n hx hb dJ5_init_d00df_17 rfl (lv_at hl 0 rfl) ?_
  refine lv_iconst (v := 0) hx hb dJ5_init_d00df_18 (by decide) ?_
  refine bput (C := RJ4) (T := TJ4) (N := 4) (lw' := [(q, .inr (9, [.ref v_1, .int 0, .int 0, .int 0])), (v_1, .inl (ct 7, 16, .inl (fun _ => 0)))]) 0 1 S X0 hP hD hS tyJ4 tyJ4_ok nmJ4 rfl inJ4 fl_RJ5_22 rfl rfl (by decide) rfl rfl rfl (Nat.le_of_ble_eq_true rfl) dJ5_init_d00df_19 (fun H locs hP hD hS => ?_)
  refine lv_goto (tgt := 38) hx hb dJ5_init_d00df_22 (by decide) ?_
  refine eBv (L := (fun g => B ++ [(q, .inr (9, [.ref (g 0), .int 0, .int 0, .int 0])), ((g 0), .inl (ct 7, 16, .inl (fun _ => 0)))])) (fun _ => v_1) S hr hlocks hP hD hS ?_ dJ5_init_d00df_38
  exact ⟨(by first | decide | (show _ ≤ 3; omega)), (by first | decide | (show _ ≤ 6 * 3; omega))⟩

theorem kb_yJ4_init_da8c8 : COB yJ4_init_da8c8 cJ4_init_da8c8 1 (Option.none : Option FieldType) 0 := ⟨in_RJ4, co_yJ4_init_da8c8, ⟨by decide +kernel, by decide +kernel, by decide +kernel⟩, by decide⟩
set_option maxHeartbeats 4000000 in
set_option maxRecDepth 100000 in
theorem b_J4_init_da8c8 (l : Launch) {D : va_G} {ct : Nat → ClassId} {N0 : Nat} {F : State → Prop} {ek : Nat → Nat} (cs : Nat → Nat) {dg : Nat} (hF : ∀ U, F U → FX ek cs N0 U) (hZ : ∀ U, F U → SBF dg N0 U) (B : va_W) (q : Nat) :
    MB l yJ4_init_da8c8 cJ4_init_da8c8 1 (Option.none : Option FieldType) 2 3 D ct N0 F [.ref q] (B ++ [(q, .inr (9, [.null, .int 0, .int 0, .int 0]))]) (fun _ => none) (fun g => B ++ [(q, .inr (9, [.ref (g 0), .int 0, .int 0, .int 0])), ((g 0), .inl (ct 7, 16, .inl (fun _ => 0)))]) := by
  refine msB (own := RJ4) (by decide +kernel) rfl (Nat.le_of_ble_eq_true rfl) (fun p e s m args below meth c S hr hlocks hmn X0 hP hD hS ls hl => ?_)
  have hx := S.1
  have hb := S.2.1
  have FC := hF s X0.2.2.2.2.2
  have FZ := hZ s X0.2.2.2.2.2
  replace hl : lv_has ls 1 [(0, .ref q)] := hl
  refine lv_aload_n hx hb dJ4_init_da8c8_0 rfl (lv_at hl 0 rfl) ?_
  refine lv_bipush (v := 16) hx hb dJ4_init_da8c8_1 (by decide) ?_
  refine bI (As := [.int 16]) S X0 (b_J5_init_d00df l cs hF hZ B q) kb_yJ5_init_d00df rfl ml_RJ4_1 im_yJ5_init_d00df hP hD hS hl.1 ⟨by decide, by decide⟩ rfl (by rfl) (Nat.le_of_ble_eq_true rfl) ⟨(by first | decide | (show _ ≤ 3; omega)), (by first | decide | (show _ ≤ 6 * 3; omega))⟩ dJ4_init_da8c8_3 (fun g H locs hP hD hS => ?_)
  replace hP : va_P D vcl (B ++ [(q, .inr (9, [.ref (g 0), .int 0, .int 0, .int 0])), ((g 0), .inl (ct 7, 16, .inl (fun _ => 0)))]) H := hP
  replace hD : va_D (fr N0) (B ++ [(q, .inr (9, [.ref (g 0), .int 0, .int 0, .int 0])), ((g 0), .inl (ct 7, 16, .inl (fun _ => 0)))]) := hD
  refine eBv (L := (fun g => B ++ [(q, .inr (9, [.ref (g 0), .int 0, .int 0, .int 0])), ((g 0), .inl (ct 7, 16, .inl (fun _ => 0)))])) g S hr hlocks hP hD hS ?_ dJ4_init_da8c8_6
  exact ⟨(by first | decide | (show _ ≤ 3; omega)), (by first | decide | (show _ ≤ 6 * 3; omega))⟩

theorem kb_yJ5_ensureCapacityInternal_d00df : COB yJ5_ensureCapacityInternal_d00df cJ5_ensureCapacityInternal_d00df 3 (Option.none : Option FieldType) 1 := ⟨in_RJ5, co_yJ5_ensureCapacityInternal_d00df, ⟨by decide +kernel, by decide +kernel, by decide +kernel⟩, by decide⟩
set_option maxHeartbeats 4000000 in
set_option maxRecDepth 100000 in
theorem b_J5_ensureCapacityInternal_d00df (l : Launch) {D : va_G} {ct : Nat → ClassId} {N0 : Nat} {F : State → Prop} {ek : Nat → Nat} (cs : Nat → Nat) {dg : Nat} (hF : ∀ U, F U → FX ek cs N0 U) (hZ : ∀ U, F U → SBF dg N0 U) (B : va_W) (q : Nat) (v : Nat) (n : Nat) (f : Nat → Int32) (mn : Nat) (hm : mn ≤ 16) :
    MB l yJ5_ensureCapacityInternal_d00df cJ5_ensureCapacityInternal_d00df 3 (Option.none : Option FieldType) 1 0 D ct N0 F [.ref q, .int (nI mn)] (B ++ [(q, .inr (9, [.ref v, .int 0, .int 0, .int (nI n)])), (v, .inl (ct 7, 16, .inl f))]) (fun _ => none) (fun _ => (B ++ [(q, .inr (9, [.ref v, .int 0, .int 0, .int (nI n)])), (v, .inl (ct 7, 16, .inl f))])) := by
  refine msB (own := RJ5) (by decide +kernel) rfl (Nat.le_of_ble_eq_true rfl) (fun p e s m args below meth c S hr hlocks hmn X0 hP hD hS ls hl => ?_)
  have hx := S.1
  have hb := S.2.1
  have FC := hF s X0.2.2.2.2.2
  have FZ := hZ s X0.2.2.2.2.2
  replace hl : lv_has ls 3 [(0, .ref q), (1, .int (nI mn))] := hl
  refine lv_aload_n hx hb dJ5_ensureCapacityInternal_d00df_0 rfl (lv_at hl 0 rfl) ?_
  refine bget (C := RJ4) (T := TJ4) (N := 4) (B.length + 0) 0 S X0 hP rfl inJ4 fl_RJ5_15 (at_B (j := 0) rfl) (by decide) rfl dJ5_ensureCapacityInternal_d00df_1 ?_
  refine balen (B.length + 1) S X0 hP (at_B (j := 1) rfl) dJ5_ensureCapacityInternal_d00df_4 ?_
  refine lv_aload_n hx hb dJ5_ensureCapacityInternal_d00df_5 rfl (lv_at hl 0 rfl) ?_
  refine bget (C := RJ4) (T := TJ4) (N := 4) (B.length + 0) 1 S X0 hP rfl inJ4 fl_RJ5_22 (at_B (j := 0) rfl) (by decide) rfl dJ5_ensureCapacityInternal_d00df_6 ?_
  refine lv_ishr hx hb dJ5_ensureCapacityInternal_d00df_9 ?_
  refine lv_tope (y := nI 16) shr0 ?_
  refine lv_istore_n (lv' := [(2, .int (nI 16)), (0, .ref q), (1, .int (nI mn))]) hx hb dJ5_ensureCapacityInternal_d00df_10 rfl hl (by decide) rfl (fun ls hl => ?_)
  refine lv_iload_n hx hb dJ5_ensureCapacityInternal_d00df_11 rfl (lv_at hl 2 rfl) ?_
  refine lv_iload_n hx hb dJ5_ensureCapacityInternal_d00df_12 rfl (lv_at hl 0 rfl) ?_
  refine lv_isub hx hb dJ5_ensureCapacityInternal_d00df_13 ?_
  refine lv_if_le (tgt := 38) hx hb dJ5_ensureCapacityInternal_d00df_14 (by decide) (fun c_14 => ?_) (fun c_14 => absurd (nI_s0 hm (by decide)) c_14)
  refine eBv (L := (fun _ => (B ++ [(q, .inr (9, [.ref v, .int 0, .int 0, .int (nI n)])), (v, .inl (ct 7, 16, .inl f))]))) (fun _ => 0) S hr hlocks hP hD hS ?_ dJ5_ensureCapacityInternal_d00df_38
  exact ⟨(by first | decide | (show _ ≤ 0; omega)), (by first | decide | (show _ ≤ 6 * 0; omega))⟩

theorem kb_yJ5_inflateIfNeededFor_a7421 : COB yJ5_inflateIfNeededFor_a7421 cJ5_inflateIfNeededFor_a7421 2 (Option.none : Option FieldType) 1 := ⟨in_RJ5, co_yJ5_inflateIfNeededFor_a7421, ⟨by decide +kernel, by decide +kernel, by decide +kernel⟩, by decide⟩
set_option maxHeartbeats 4000000 in
set_option maxRecDepth 100000 in
theorem b_J5_inflateIfNeededFor_a7421 (l : Launch) {D : va_G} {ct : Nat → ClassId} {N0 : Nat} {F : State → Prop} {ek : Nat → Nat} (cs : Nat → Nat) {dg : Nat} (hF : ∀ U, F U → FX ek cs N0 U) (hZ : ∀ U, F U → SBF dg N0 U) (B : va_W) (q : Nat) (v : Nat) (n : Nat) (f : Nat → Int32) (i : Nat) (hi : i < 14) :
    MB l yJ5_inflateIfNeededFor_a7421 cJ5_inflateIfNeededFor_a7421 2 (Option.none : Option FieldType) 2 0 D ct N0 F [.ref q, .ref (cs i)] (B ++ [(q, .inr (9, [.ref v, .int 0, .int 0, .int (nI n)])), (v, .inl (ct 7, 16, .inl f))]) (fun _ => none) (fun _ => (B ++ [(q, .inr (9, [.ref v, .int 0, .int 0, .int (nI n)])), (v, .inl (ct 7, 16, .inl f))])) := by
  refine msB (own := RJ5) (by decide +kernel) rfl (Nat.le_of_ble_eq_true rfl) (fun p e s m args below meth c S hr hlocks hmn X0 hP hD hS ls hl => ?_)
  have hx := S.1
  have hb := S.2.1
  have FC := hF s X0.2.2.2.2.2
  have FZ := hZ s X0.2.2.2.2.2
  replace hl : lv_has ls 2 [(0, .ref q), (1, .ref (cs i))] := hl
  refine va_gets (A := fr N0) hx hb FC.comp hS S.2.2.2.1 (S.2.2.2.2 _ fl_RJ5_18) (fun _ h => h) dJ5_inflateIfNeededFor_a7421_0 ?_
  refine lv_if_eq (tgt := 21) hx hb dJ5_inflateIfNeededFor_a7421_3 (by decide) (fun c_3 => absurd c_3 (by decide)) (fun c_3 => ?_)
  refine lv_aload_n hx hb dJ5_inflateIfNeededFor_a7421_6 rfl (lv_at hl 0 rfl) ?_
  refine bget (C := RJ4) (T := TJ4) (N := 4) (B.length + 0) 1 S X0 hP rfl inJ4 fl_RJ5_22 (at_B (j := 0) rfl) (by decide) rfl dJ5_inflateIfNeededFor_a7421_7 ?_
  refine lv_aload_n hx hb dJ5_inflateIfNeededFor_a7421_10 rfl (lv_at hl 1 rfl) ?_
  refine bV (As := []) (C := RJ0) S X0 (b_J0_coder_7d493 l cs hF hZ _ i hi) kb_yJ0_coder_7d493 ml_RJ5_40 im_yJ0_coder_7d493 (S.2.2.2.2 _ se_RJ0_yJ0_coder_7d493) (vk_recv FC.str hi hS) hP hD hS hl.1 ⟨by decide, by decide⟩ rfl (by rfl) (Nat.le_of_ble_eq_true rfl) ⟨(by first | decide | (show _ ≤ 0; omega)), (by first | decide | (show _ ≤ 6 * 0; omega))⟩ dJ5_inflateIfNeededFor_a7421_11 (fun _ H locs hP hD hS => ?_)
  refine lv_icmp_eq (tgt := 21) hx hb dJ5_inflateIfNeededFor_a7421_14 (by decide) (fun c_14 => ?_) (fun c_14 => absurd rfl c_14)
  refine eBv (L := (fun _ => (B ++ [(q, .inr (9, [.ref v, .int 0, .int 0, .int (nI n)])), (v, .inl (ct 7, 16, .inl f))]))) (fun _ => 0) S hr hlocks hP hD hS ?_ dJ5_inflateIfNeededFor_a7421_21
  exact ⟨(by first | decide | (show _ ≤ 0; omega)), (by first | decide | (show _ ≤ 6 * 0; omega))⟩

theorem kb_yJ0_getBytes_840e7 : COB yJ0_getBytes_840e7 cJ0_getBytes_840e7 4 (Option.none : Option FieldType) 3 := ⟨in_RJ0, co_yJ0_getBytes_840e7, ⟨by decide +kernel, by decide +kernel, by decide +kernel⟩, by decide⟩
set_option maxHeartbeats 4000000 in
set_option maxRecDepth 100000 in
theorem b_J0_getBytes_840e7 (l : Launch) {D : va_G} {ct : Nat → ClassId} {N0 : Nat} {F : State → Prop} {ek : Nat → Nat} (cs : Nat → Nat) {dg : Nat} (hF : ∀ U, F U → FX ek cs N0 U) (hZ : ∀ U, F U → SBF dg N0 U) (B : va_W) (q : Nat) (v : Nat) (n : Nat) (f : Nat → Int32) (i : Nat) (hi : i < 14) (hn : n + strL.getD i 0 ≤ 16) :
    MB l yJ0_getBytes_840e7 cJ0_getBytes_840e7 4 (Option.none : Option FieldType) 2 0 D ct N0 F [.ref (cs i), .ref v, .int (nI n), .int 0] (B ++ [(q, .inr (9, [.ref v, .int 0, .int 0, .int (nI n)])), (v, .inl (ct 7, 16, .inl f))]) (fun _ => none) (fun _ => B ++ [(q, .inr (9, [.ref v, .int 0, .int 0, .int (nI n)])), (v, .inl (ct 7, 16, .inl (va_cpy (fun j => (strB.getD i []).getD j 0) f 0 n (strL.getD i 0))))]) := by
  refine msB (own := RJ0) (by decide +kernel) rfl (Nat.le_of_ble_eq_true rfl) (fun p e s m args below meth c S hr hlocks hmn X0 hP hD hS ls hl => ?_)
  have hx := S.1
  have hb := S.2.1
  have FC := hF s X0.2.2.2.2.2
  have FZ := hZ s X0.2.2.2.2.2
  replace hl : lv_has ls 4 [(0, .ref (cs i)), (1, .ref v), (2, .int (nI n)), (3, .int 0)] := hl
  have h8 := strL_8 i hi
  refine lv_aload_n hx hb dJ0_getBytes_840e7_0 rfl (lv_at hl 0 rfl) ?_
  refine bV (As := []) (C := RJ0) S X0 (b_J0_coder_7d493 l cs hF hZ _ i hi) kb_yJ0_coder_7d493 ml_RJ0_335 im_yJ0_coder_7d493 (S.2.2.2.2 _ se_RJ0_yJ0_coder_7d493) (vk_recv FC.str hi hS) hP hD hS hl.1 ⟨by decide, by decide⟩ rfl (by rfl) (Nat.le_of_ble_eq_true rfl) ⟨(by first | decide | (show _ ≤ 0; omega)), (by first | decide | (show _ ≤ 6 * 0; omega))⟩ dJ0_getBytes_840e7_1 (fun _ H locs hP hD hS => ?_)
  refine lv_iload_n hx hb dJ0_getBytes_840e7_4 rfl (lv_at hl 3 rfl) ?_
  refine lv_icmp_ne (tgt := 28) hx hb dJ0_getBytes_840e7_5 (by decide) (fun c_5 => absurd rfl c_5) (fun c_5 => ?_)
  refine lv_aload_n hx hb dJ0_getBytes_840e7_8 rfl (lv_at hl 0 rfl) ?_
  refine vk_getf (A := fr N0) hx hb (FC.str.1 i hi).2.2.1 hS S.2.2.2.1 (S.2.2.2.2 _ fl_RJ0_9) (fun _ h => h) dJ0_getBytes_840e7_9 ?_
  refine lv_iconst (v := 0) hx hb dJ0_getBytes_840e7_12 (by decide) ?_
  refine lv_aload_n hx hb dJ0_getBytes_840e7_13 rfl (lv_at hl 1 rfl) ?_
  refine lv_iload_n hx hb dJ0_getBytes_840e7_14 rfl (lv_at hl 2 rfl) ?_
  refine lv_iload_n hx hb dJ0_getBytes_840e7_15 rfl (lv_at hl 3 rfl) ?_
  refine lv_ishl hx hb dJ0_getBytes_840e7_16 ?_
  refine lv_tope (y := nI n) shl0 ?_
  refine lv_aload_n hx hb dJ0_getBytes_840e7_17 rfl (lv_at hl 0 rfl) ?_
  refine vk_getf (A := fr N0) hx hb (FC.str.1 i hi).2.2.1 hS S.2.2.2.1 (S.2.2.2.2 _ fl_RJ0_9) (fun _ h => h) dJ0_getBytes_840e7_18 ?_
  refine va_tlen (A := fr N0) (v := nI (strL.getD i 0)) hx hb (FC.str.1 i hi).2.2.2 hS rfl dJ0_getBytes_840e7_21 ?_
  refine bcpK (lw' := [(q, .inr (9, [.ref v, .int 0, .int 0, .int (nI n)])), (v, .inl (ct 7, 16, .inl (va_cpy (fun j => (strB.getD i []).getD j 0) f 0 n (strL.getD i 0))))]) 1 S X0 hl.1 ⟨by decide, by decide⟩ ml_RJ0_212 hP hD hS (FC.str.1 i hi).2.2.2 rfl ⟨by omega, by omega, by omega⟩ (fun j hj => str_fit hi hj) rfl dJ0_getBytes_840e7_22 (fun H locs hP hD hS => ?_)
  refine lv_goto (tgt := 43) hx hb dJ0_getBytes_840e7_25 (by decide) ?_
  refine eBv (L := (fun _ => B ++ [(q, .inr (9, [.ref v, .int 0, .int 0, .int (nI n)])), (v, .inl (ct 7, 16, .inl (va_cpy (fun j => (strB.getD i []).getD j 0) f 0 n (strL.getD i 0))))])) (fun _ => 0) S hr hlocks hP hD hS ?_ dJ0_getBytes_840e7_43
  exact ⟨(by first | decide | (show _ ≤ 0; omega)), (by first | decide | (show _ ≤ 6 * 0; omega))⟩

theorem kb_yJ5_putStringAt_47b60 : COB yJ5_putStringAt_47b60 cJ5_putStringAt_47b60 3 (Option.none : Option FieldType) 2 := ⟨in_RJ5, co_yJ5_putStringAt_47b60, ⟨by decide +kernel, by decide +kernel, by decide +kernel⟩, by decide⟩
set_option maxHeartbeats 4000000 in
set_option maxRecDepth 100000 in
theorem b_J5_putStringAt_47b60 (l : Launch) {D : va_G} {ct : Nat → ClassId} {N0 : Nat} {F : State → Prop} {ek : Nat → Nat} (cs : Nat → Nat) {dg : Nat} (hF : ∀ U, F U → FX ek cs N0 U) (hZ : ∀ U, F U → SBF dg N0 U) (B : va_W) (q : Nat) (v : Nat) (n : Nat) (f : Nat → Int32) (i : Nat) (hi : i < 14) (hn : n + strL.getD i 0 ≤ 16) :
    MB l yJ5_putStringAt_47b60 cJ5_putStringAt_47b60 3 (Option.none : Option FieldType) 3 0 D ct N0 F [.ref q, .int (nI n), .ref (cs i)] (B ++ [(q, .inr (9, [.ref v, .int 0, .int 0, .int (nI n)])), (v, .inl (ct 7, 16, .inl f))]) (fun _ => none) (fun _ => B ++ [(q, .inr (9, [.ref v, .int 0, .int 0, .int (nI n)])), (v, .inl (ct 7, 16, .inl (va_cpy (fun j => (strB.getD i []).getD j 0) f 0 n (strL.getD i 0))))]) := by
  refine msB (own := RJ5) (by decide +kernel) rfl (Nat.le_of_ble_eq_true rfl) (fun p e s m args below meth c S hr hlocks hmn X0 hP hD hS ls hl => ?_)
  have hx := S.1
  have hb := S.2.1
  have FC := hF s X0.2.2.2.2.2
  have FZ := hZ s X0.2.2.2.2.2
  replace hl : lv_has ls 3 [(0, .ref q), (1, .int (nI n)), (2, .ref (cs i))] := hl
  refine lv_aload_n hx hb dJ5_putStringAt_47b60_0 rfl (lv_at hl 0 rfl) ?_
  refine lv_aload_n hx hb dJ5_putStringAt_47b60_1 rfl (lv_at hl 2 rfl) ?_
  refine bV (As := [.ref (cs i)]) (C := RJ4) S X0 (b_J5_inflateIfNeededFor_a7421 l cs hF hZ B q v n f i hi) kb_yJ5_inflateIfNeededFor_a7421 ml_RJ5_397 im_yJ5_inflateIfNeededFor_a7421 (FZ.se (List.mem_cons_of_mem _ (List.mem_cons_of_mem _ List.mem_cons_self))) (va_recv (q0 := B.length) X0.1 hP (ci := 9) rfl (at_B (j := 0) rfl)) hP hD hS hl.1 ⟨by decide, by decide⟩ rfl (by rfl) (Nat.le_of_ble_eq_true rfl) ⟨(by first | decide | (show _ ≤ 0; omega)), (by first | decide | (show _ ≤ 6 * 0; omega))⟩ dJ5_putStringAt_47b60_2 (fun _ H locs hP hD hS => ?_)
  refine lv_aload_n hx hb dJ5_putStringAt_47b60_5 rfl (lv_at hl 2 rfl) ?_
  refine lv_aload_n hx hb dJ5_putStringAt_47b60_6 rfl (lv_at hl 0 rfl) ?_
  refine bget (C := RJ4) (T := TJ4) (N := 4) (B.length + 0) 0 S X0 hP rfl inJ4 fl_RJ5_15 (at_B (j := 0) rfl) (by decide) rfl dJ5_putStringAt_47b60_7 ?_
  refine lv_iload_n hx hb dJ5_putStringAt_47b60_10 rfl (lv_at hl 1 rfl) ?_
  refine lv_aload_n hx hb dJ5_putStringAt_47b60_11 rfl (lv_at hl 0 rfl) ?_
  refine bget (C := RJ4) (T := TJ4) (N := 4) (B.length + 0) 1 S X0 hP rfl inJ4 fl_RJ5_22 (at_B (j := 0) rfl) (by decide) rfl dJ5_putStringAt_47b60_12 ?_
  refine bV (As := [.ref v, .int (nI n), .int 0]) (C := RJ0) S X0 (b_J0_getBytes_840e7 l cs hF hZ B q v n f i hi hn) kb_yJ0_getBytes_840e7 ml_RJ5_399 im_yJ0_getBytes_840e7 (S.2.2.2.2 _ se_RJ0_yJ0_getBytes_840e7) (vk_recv FC.str hi hS) hP hD hS hl.1 ⟨by decide, by decide⟩ rfl (by rfl) (Nat.le_of_ble_eq_true rfl) ⟨(by first | decide | (show _ ≤ 0; omega)), (by first | decide | (show _ ≤ 6 * 0; omega))⟩ dJ5_putStringAt_47b60_15 (fun _ H locs hP hD hS => ?_)
  replace hP : va_P D vcl (B ++ [(q, .inr (9, [.ref v, .int 0, .int 0, .int (nI n)])), (v, .inl (ct 7, 16, .inl (va_cpy (fun j => (strB.getD i []).getD j 0) f 0 n (strL.getD i 0))))]) H := hP
  replace hD : va_D (fr N0) (B ++ [(q, .inr (9, [.ref v, .int 0, .int 0, .int (nI n)])), (v, .inl (ct 7, 16, .inl (va_cpy (fun j => (strB.getD i []).getD j 0) f 0 n (strL.getD i 0))))]) := hD
  refine eBv (L := (fun _ => B ++ [(q, .inr (9, [.ref v, .int 0, .int 0, .int (nI n)])), (v, .inl (ct 7, 16, .inl (va_cpy (fun j => (strB.getD i []).getD j 0) f 0 n (strL.getD i 0))))])) (fun _ => 0) S hr hlocks hP hD hS ?_ dJ5_putStringAt_47b60_18
  exact ⟨(by first | decide | (show _ ≤ 0; omega)), (by first | decide | (show _ ≤ 6 * 0; omega))⟩

theorem kb_yJ5_append_cf1ce : COB yJ5_append_cf1ce cJ5_append_cf1ce 3 (Option.some (FieldType.object RJ5)) 1 := ⟨in_RJ5, co_yJ5_append_cf1ce, ⟨by decide +kernel, by decide +kernel, by decide +kernel⟩, by decide⟩
set_option maxHeartbeats 4000000 in
set_option maxRecDepth 100000 in
theorem b_J5_append_cf1ce (l : Launch) {D : va_G} {ct : Nat → ClassId} {N0 : Nat} {F : State → Prop} {ek : Nat → Nat} (cs : Nat → Nat) {dg : Nat} (hF : ∀ U, F U → FX ek cs N0 U) (hZ : ∀ U, F U → SBF dg N0 U) (B : va_W) (q : Nat) (v : Nat) (n : Nat) (f : Nat → Int32) (i : Nat) (hi : i < 14) (hn : n + strL.getD i 0 ≤ 16) :
    MB l yJ5_append_cf1ce cJ5_append_cf1ce 3 (Option.some (FieldType.object RJ5)) 4 0 D ct N0 F [.ref q, .ref (cs i)] (B ++ [(q, .inr (9, [.ref v, .int 0, .int 0, .int (nI n)])), (v, .inl (ct 7, 16, .inl f))]) (fun g => some (.ref q)) (fun _ => B ++ [(q, .inr (9, [.ref v, .int 0, .int 0, .int (nI (n + strL.getD i 0))])), (v, .inl (ct 7, 16, .inl (va_cpy (fun j => (strB.getD i []).getD j 0) f 0 n (strL.getD i 0))))]) := by
  refine msB (own := RJ5) (by decide +kernel) rfl (Nat.le_of_ble_eq_true rfl) (fun p e s m args below meth c S hr hlocks hmn X0 hP hD hS ls hl => ?_)
  have hx := S.1
  have hb := S.2.1
  have FC := hF s X0.2.2.2.2.2
  have FZ := hZ s X0.2.2.2.2.2
  replace hl : lv_has ls 3 [(0, .ref q), (1, .ref (cs i))] := hl
  refine lv_aload_n hx hb dJ5_append_cf1ce_0 rfl (lv_at hl 1 rfl) ?_
  refine lv_ifnonnull (tgt := 9) hx hb dJ5_append_cf1ce_1 (by decide) ?_
  refine lv_aload_n hx hb dJ5_append_cf1ce_9 rfl (lv_at hl 1 rfl) ?_
  refine bV (As := []) (C := RJ0) S X0 (b_J0_length_8abf5 l cs hF hZ _ i hi) kb_yJ0_length_8abf5 ml_RJ5_32 im_yJ0_length_8abf5 (S.2.2.2.2 _ se_RJ0_yJ0_length_8abf5) (vk_recv FC.str hi hS) hP hD hS hl.1 ⟨by decide, by decide⟩ rfl (by rfl) (Nat.le_of_ble_eq_true rfl) ⟨(by first | decide | (show _ ≤ 0; omega)), (by first | decide | (show _ ≤ 6 * 0; omega))⟩ dJ5_append_cf1ce_10 (fun _ H locs hP hD hS => ?_)
  refine lv_istore_n (lv' := [(2, .int (nI (strL.getD i 0))), (0, .ref q), (1, .ref (cs i))]) hx hb dJ5_append_cf1ce_13 rfl hl (by decide) rfl (fun ls hl => ?_)
  refine lv_aload_n hx hb dJ5_append_cf1ce_14 rfl (lv_at hl 1 rfl) ?_
  refine lv_aload_n hx hb dJ5_append_cf1ce_15 rfl (lv_at hl 1 rfl) ?_
  refine bget (C := RJ4) (T := TJ4) (N := 4) (B.length + 0) 3 S X0 hP rfl inJ4 fl_RJ5_79 (at_B (j := 0) rfl) (by decide) rfl dJ5_append_cf1ce_16 ?_
  refine lv_iload_n hx hb dJ5_append_cf1ce_19 rfl (lv_at hl 0 rfl) ?_
  refine nadd hx hb n (strL.getD i 0) dJ5_append_cf1ce_20 rfl rfl ?_
  refine bV (As := [.int (nI (n + (strL.getD i 0)))]) (C := RJ4) S X0 (b_J5_ensureCapacityInternal_d00df l cs hF hZ B q v n f (n + strL.getD i 0) hn) kb_yJ5_ensureCapacityInternal_d00df ml_RJ5_100 im_yJ5_ensureCapacityInternal_d00df (FZ.se List.mem_cons_self) (va_recv (q0 := B.length) X0.1 hP (ci := 9) rfl (at_B (j := 0) rfl)) hP hD hS hl.1 ⟨by decide, by decide⟩ rfl (by rfl) (Nat.le_of_ble_eq_true rfl) ⟨(by first | decide | (show _ ≤ 0; omega)), (by first | decide | (show _ ≤ 6 * 0; omega))⟩ dJ5_append_cf1ce_21 (fun _ H locs hP hD hS => ?_)
  refine lv_aload_n hx hb dJ5_append_cf1ce_24 rfl (lv_at hl 1 rfl) ?_
  refine lv_aload_n hx hb dJ5_append_cf1ce_25 rfl (lv_at hl 1 rfl) ?_
  refine bget (C := RJ4) (T := TJ4) (N := 4) (B.length + 0) 3 S X0 hP rfl inJ4 fl_RJ5_79 (at_B (j := 0) rfl) (by decide) rfl dJ5_append_cf1ce_26 ?_
  refine lv_aload_n hx hb dJ5_append_cf1ce_29 rfl (lv_at hl 2 rfl) ?_
  refine bV (As := [.int (nI n), .ref (cs i)]) (C := RJ4) S X0 (b_J5_putStringAt_47b60 l cs hF hZ B q v n f i hi hn) kb_yJ5_putStringAt_47b60 ml_RJ5_208 im_yJ5_putStringAt_47b60 (FZ.se (List.mem_cons_of_mem _ List.mem_cons_self)) (va_recv (q0 := B.length) X0.1 hP (ci := 9) rfl (at_B (j := 0) rfl)) hP hD hS hl.1 ⟨by decide, by decide⟩ rfl (by rfl) (Nat.le_of_ble_eq_true rfl) ⟨(by first | decide | (show _ ≤ 0; omega)), (by first | decide | (show _ ≤ 6 * 0; omega))⟩ dJ5_append_cf1ce_30 (fun _ H locs hP hD hS => ?_)
  replace hP : va_P D vcl (B ++ [(q, .inr (9, [.ref v, .int 0, .int 0, .int (nI n)])), (v, .inl (ct 7, 16, .inl (va_cpy (fun j => (strB.getD i []).getD j 0) f 0 n (strL.getD i 0))))]) H := hP
  replace hD : va_D (fr N0) (B ++ [(q, .inr (9, [.ref v, .int 0, .int 0, .int (nI n)])), (v, .inl (ct 7, 16, .inl (va_cpy (fun j => (strB.getD i []).getD j 0) f 0 n (strL.getD i 0))))]) := hD
  refine lv_aload_n hx hb dJ5_append_cf1ce_33 rfl (lv_at hl 1 rfl) ?_
  refine lv_dup hx hb dJ5_append_cf1ce_34 rfl ?_
  refine bget (C := RJ4) (T := TJ4) (N := 4) (B.length + 0) 3 S X0 hP rfl inJ4 fl_RJ5_79 (at_B (j := 0) rfl) (by decide) rfl dJ5_append_cf1ce_35 ?_
  refine lv_iload_n hx hb dJ5_append_cf1ce_38 rfl (lv_at hl 0 rfl) ?_
  refine nadd hx hb n (strL.getD i 0) dJ5_append_cf1ce_39 rfl rfl ?_
  refine bput (C := RJ4) (T := TJ4) (N := 4) (lw' := [(q, .inr (9, [.ref v, .int 0, .int 0, .int (nI (n + (strL.getD i 0)))])), (v, .inl (ct 7, 16, .inl (va_cpy (fun j => (strB.getD i []).getD j 0) f 0 n (strL.getD i 0))))]) 0 3 S X0 hP hD hS tyJ4 tyJ4_ok nmJ4 rfl inJ4 fl_RJ5_79 rfl rfl (by decide) rfl rfl rfl (Nat.le_of_ble_eq_true rfl) dJ5_append_cf1ce_40 (fun H locs hP hD hS => ?_)
  refine lv_aload_n hx hb dJ5_append_cf1ce_43 rfl (lv_at hl 1 rfl) ?_
  refine eBa (a := (fun g => q)) (L := (fun _ => B ++ [(q, .inr (9, [.ref v, .int 0, .int 0, .int (nI (n + strL.getD i 0))])), (v, .inl (ct 7, 16, .inl (va_cpy (fun j => (strB.getD i []).getD j 0) f 0 n (strL.getD i 0))))])) (fun _ => 0) S hr (Or.inl ⟨_, rfl⟩) hlocks hP hD hS ?_ dJ5_append_cf1ce_44
  exact ⟨(by first | decide | (show _ ≤ 0; omega)), (by first | decide | (show _ ≤ 6 * 0; omega))⟩

theorem kb_yJ4_append_15ec4 : COB yJ4_append_15ec4 cJ4_append_15ec4 2 (Option.some (FieldType.object RJ4)) 1 := ⟨in_RJ4, co_yJ4_append_15ec4, ⟨by decide +kernel, by decide +kernel, by decide +kernel⟩, by decide⟩
set_option maxHeartbeats 4000000 in
set_option maxRecDepth 100000 in
theorem b_J4_append_15ec4 (l : Launch) {D : va_G} {ct : Nat → ClassId} {N0 : Nat} {F : State → Prop} {ek : Nat → Nat} (cs : Nat → Nat) {dg : Nat} (hF : ∀ U, F U → FX ek cs N0 U) (hZ : ∀ U, F U → SBF dg N0 U) (B : va_W) (q : Nat) (v : Nat) (n : Nat) (f : Nat → Int32) (i : Nat) (hi : i < 14) (hn : n + strL.getD i 0 ≤ 16) :
    MB l yJ4_append_15ec4 cJ4_append_15ec4 2 (Option.some (FieldType.object RJ4)) 5 0 D ct N0 F [.ref q, .ref (cs i)] (B ++ [(q, .inr (9, [.ref v, .int 0, .int 0, .int (nI n)])), (v, .inl (ct 7, 16, .inl f))]) (fun g => some (.ref q)) (fun _ => B ++ [(q, .inr (9, [.ref v, .int 0, .int 0, .int (nI (n + strL.getD i 0))])), (v, .inl (ct 7, 16, .inl (va_cpy (fun j => (strB.getD i []).getD j 0) f 0 n (strL.getD i 0))))]) := by
  refine msB (own := RJ4) (by decide +kernel) rfl (Nat.le_of_ble_eq_true rfl) (fun p e s m args below meth c S hr hlocks hmn X0 hP hD hS ls hl => ?_)
  have hx := S.1
  have hb := S.2.1
  have FC := hF s X0.2.2.2.2.2
  have FZ := hZ s X0.2.2.2.2.2
  replace hl : lv_has ls 2 [(0, .ref q), (1, .ref (cs i))] := hl
  refine lv_aload_n hx hb dJ4_append_15ec4_0 rfl (lv_at hl 0 rfl) ?_
  refine lv_aload_n hx hb dJ4_append_15ec4_1 rfl (lv_at hl 1 rfl) ?_
  refine bSU (As := [.ref (cs i)]) (X0.1.1 9 _ rfl).2 S X0 (b_J5_append_cf1ce l cs hF hZ B q v n f i hi hn) kb_yJ5_append_cf1ce (by decide) ml_RJ4_29 sa_apS su_RJ4 im_yJ5_append_cf1ce (va_recv (q0 := B.length) X0.1 hP (ci := 9) rfl (at_B (j := 0) rfl)) hP hD hS hl.1 ⟨by decide, by decide⟩ rfl (by rfl) (Nat.le_of_ble_eq_true rfl) ⟨(by first | decide | (show _ ≤ 0; omega)), (by first | decide | (show _ ≤ 6 * 0; omega))⟩ dJ4_append_15ec4_2 (fun _ H locs hP hD hS => ?_)
  replace hP : va_P D vcl (B ++ [(q, .inr (9, [.ref v, .int 0, .int 0, .int (nI (n + strL.getD i 0))])), (v, .inl (ct 7, 16, .inl (va_cpy (fun j => (strB.getD i []).getD j 0) f 0 n (strL.getD i 0))))]) H := hP
  replace hD : va_D (fr N0) (B ++ [(q, .inr (9, [.ref v, .int 0, .int 0, .int (nI (n + strL.getD i 0))])), (v, .inl (ct 7, 16, .inl (va_cpy (fun j => (strB.getD i []).getD j 0) f 0 n (strL.getD i 0))))]) := hD
  refine lv_pop hx hb dJ4_append_15ec4_5 rfl ?_
  refine lv_aload_n hx hb dJ4_append_15ec4_6 rfl (lv_at hl 0 rfl) ?_
  refine eBa (a := (fun g => q)) (L := (fun _ => B ++ [(q, .inr (9, [.ref v, .int 0, .int 0, .int (nI (n + strL.getD i 0))])), (v, .inl (ct 7, 16, .inl (va_cpy (fun j => (strB.getD i []).getD j 0) f 0 n (strL.getD i 0))))])) (fun _ => 0) S hr (Or.inl ⟨_, rfl⟩) hlocks hP hD hS ?_ dJ4_append_15ec4_7
  exact ⟨(by first | decide | (show _ ≤ 0; omega)), (by first | decide | (show _ ≤ 6 * 0; omega))⟩

theorem kb_yJ6_stringSize_0f7a4 : COB yJ6_stringSize_0f7a4 cJ6_stringSize_0f7a4 4 (Option.some FieldType.int) 1 := ⟨in_RJ6, co_yJ6_stringSize_0f7a4, ⟨by decide +kernel, by decide +kernel, by decide +kernel⟩, by decide⟩
set_option maxHeartbeats 4000000 in
set_option maxRecDepth 100000 in
theorem b_J6_stringSize_0f7a4 (l : Launch) {D : va_G} {ct : Nat → ClassId} {N0 : Nat} {F : State → Prop} {ek : Nat → Nat} (cs : Nat → Nat) {dg : Nat} (hF : ∀ U, F U → FX ek cs N0 U) (hZ : ∀ U, F U → SBF dg N0 U) (ws : va_W) (d : Nat) (hd : d < 10) :
    MB l yJ6_stringSize_0f7a4 cJ6_stringSize_0f7a4 4 (Option.some FieldType.int) 1 0 D ct N0 F [.int (nI d)] ws (fun _ => some (.int 1)) (fun _ => ws) := by
  refine msB (own := RJ6) (by decide +kernel) rfl (Nat.le_of_ble_eq_true rfl) (fun p e s m args below meth c S hr hlocks hmn X0 hP hD hS ls hl => ?_)
  have hx := S.1
  have hb := S.2.1
  have FC := hF s X0.2.2.2.2.2
  have FZ := hZ s X0.2.2.2.2.2
  replace hl : lv_has ls 4 [(0, .int (nI d))] := hl
  refine lv_iconst (v := 1) hx hb dJ6_stringSize_0f7a4_0 (by decide) ?_
  refine lv_istore_n (lv' := [(1, .int 1), (0, .int (nI d))]) hx hb dJ6_stringSize_0f7a4_1 rfl hl (by decide) rfl (fun ls hl => ?_)
  refine lv_iload_n hx hb dJ6_stringSize_0f7a4_2 rfl (lv_at hl 1 rfl) ?_
  refine lv_if_lt (tgt := 11) hx hb dJ6_stringSize_0f7a4_3 (by decide) (fun c_3 => absurd c_3 (nI_pos (by omega))) (fun c_3 => ?_)
  refine lv_iconst (v := 0) hx hb dJ6_stringSize_0f7a4_6 (by decide) ?_
  refine lv_istore_n (lv' := [(1, .int 0), (0, .int (nI d))]) hx hb dJ6_stringSize_0f7a4_7 rfl hl (by decide) rfl (fun ls hl => ?_)
  refine lv_iload_n hx hb dJ6_stringSize_0f7a4_8 rfl (lv_at hl 1 rfl) ?_
  refine lv_ineg hx hb dJ6_stringSize_0f7a4_9 ?_
  refine lv_istore_n (lv' := [(0, .int (-(nI d))), (1, .int 0)]) hx hb dJ6_stringSize_0f7a4_10 rfl hl (by decide) rfl (fun ls hl => ?_)
  refine lv_bipush (v := (-10)) hx hb dJ6_stringSize_0f7a4_11 (by decide) ?_
  refine lv_istore_n (lv' := [(2, .int (-10)), (0, .int (-(nI d))), (1, .int 0)]) hx hb dJ6_stringSize_0f7a4_13 rfl hl (by decide) rfl (fun ls hl => ?_)
  refine lv_iconst (v := 1) hx hb dJ6_stringSize_0f7a4_14 (by decide) ?_
  refine lv_istore_n (lv' := [(3, .int 1), (2, .int (-10)), (0, .int (-(nI d))), (1, .int 0)]) hx hb dJ6_stringSize_0f7a4_15 rfl hl (by decide) rfl (fun ls hl => ?_)
  refine lv_iload_n hx hb dJ6_stringSize_0f7a4_16 rfl (lv_at hl 0 rfl) ?_
  refine lv_bipush (v := 10) hx hb dJ6_stringSize_0f7a4_17 (by decide) ?_
  refine lv_icmp_ge (tgt := 42) hx hb dJ6_stringSize_0f7a4_19 (by decide) (fun c_19 => absurd c_19 (by decide)) (fun c_19 => ?_)
  refine lv_iload_n hx hb dJ6_stringSize_0f7a4_22 rfl (lv_at hl 2 rfl) ?_
  refine lv_iload_n hx hb dJ6_stringSize_0f7a4_23 rfl (lv_at hl 1 rfl) ?_
  refine lv_icmp_le (tgt := 31) hx hb dJ6_stringSize_0f7a4_24 (by decide) (fun c_24 => absurd c_24 (ss_neg d hd)) (fun c_24 => ?_)
  refine lv_iload_n hx hb dJ6_stringSize_0f7a4_27 rfl (lv_at hl 0 rfl) ?_
  refine lv_iload_n hx hb dJ6_stringSize_0f7a4_28 rfl (lv_at hl 3 rfl) ?_
  refine nadd hx hb 1 0 dJ6_stringSize_0f7a4_29 (by decide) (by decide) ?_
  refine lv_tope (y := 1) rfl ?_
  refine eBi (L := (fun _ => ws)) (fun _ => 0) S hr hlocks hP hD hS ?_ dJ6_stringSize_0f7a4_30
  exact ⟨(by first | decide | (show _ ≤ 0; omega)), (by first | decide | (show _ ≤ 6 * 0; omega))⟩

theorem kb_yJ6_getChars_ba4f3 : COB yJ6_getChars_ba4f3 cJ6_getChars_ba4f3 7 (Option.some FieldType.int) 3 := ⟨in_RJ6, co_yJ6_getChars_ba4f3, ⟨by decide +kernel, by decide +kernel, by decide +kernel⟩, by decide⟩
set_option maxHeartbeats 4000000 in
set_option maxRecDepth 100000 in
theorem b_J6_getChars_ba4f3 (l : Launch) {D : va_G} {ct : Nat → ClassId} {N0 : Nat} {F : State → Prop} {ek : Nat → Nat} (cs : Nat → Nat) {dg : Nat} (hF : ∀ U, F U → FX ek cs N0 U) (hZ : ∀ U, F U → SBF dg N0 U) (B : va_W) (q : Nat) (v : Nat) (n : Nat) (f : Nat → Int32) (d : Nat) (hd : d < 10) (hn : n < 16) :
    MB l yJ6_getChars_ba4f3 cJ6_getChars_ba4f3 7 (Option.some FieldType.int) 1 0 D ct N0 F [.int (nI d), .int (nI (n + 1)), .ref v] (B ++ [(q, .inr (9, [.ref v, .int 0, .int 0, .int (nI n)])), (v, .inl (ct 7, 16, .inl f))]) (fun _ => some (.int (nI n))) (fun _ => B ++ [(q, .inr (9, [.ref v, .int 0, .int 0, .int (nI n)])), (v, .inl (ct 7, 16, .inl (upd f n (dgO d))))]) := by
  refine msB (own := RJ6) (by decide +kernel) rfl (Nat.le_of_ble_eq_true rfl) (fun p e s m args below meth c S hr hlocks hmn X0 hP hD hS ls hl => ?_)
  have hx := S.1
  have hb := S.2.1
  have FC := hF s X0.2.2.2.2.2
  have FZ := hZ s X0.2.2.2.2.2
  replace hl : lv_has ls 7 [(0, .int (nI d)), (1, .int (nI (n + 1))), (2, .ref v)] := hl
  refine lv_iload_n hx hb dJ6_getChars_ba4f3_0 rfl (lv_at hl 1 rfl) ?_
  refine lv_istore (lv' := [(5, .int (nI (n + 1))), (0, .int (nI d)), (1, .int (nI (n + 1))), (2, .ref v)]) hx hb dJ6_getChars_ba4f3_1 hl (by decide) rfl (fun ls hl => ?_)
  refine lv_iload_n hx hb dJ6_getChars_ba4f3_3 rfl (lv_at hl 1 rfl) ?_
  refine lv_if_ge (tgt := 11) hx hb dJ6_getChars_ba4f3_4 (by decide) (fun c_4 => ?_) (fun c_4 => absurd (nI_pos' (by omega)) c_4)
  refine lv_iconst (v := 0) hx hb dJ6_getChars_ba4f3_11 (by decide) ?_
  refine lv_istore (lv' := [(6, .int 0), (5, .int (nI (n + 1))), (0, .int (nI d)), (1, .int (nI (n + 1))), (2, .ref v)]) hx hb dJ6_getChars_ba4f3_12 hl (by decide) rfl (fun ls hl => ?_)
  refine lv_iload hx hb dJ6_getChars_ba4f3_14 (lv_at hl 0 rfl) ?_
  refine lv_if_ne (tgt := 22) hx hb dJ6_getChars_ba4f3_16 (by decide) (fun c_16 => absurd rfl c_16) (fun c_16 => ?_)
  refine lv_iload_n hx hb dJ6_getChars_ba4f3_19 rfl (lv_at hl 2 rfl) ?_
  refine lv_ineg hx hb dJ6_getChars_ba4f3_20 ?_
  refine lv_istore_n (lv' := [(0, .int (-(nI d))), (6, .int 0), (5, .int (nI (n + 1))), (1, .int (nI (n + 1))), (2, .ref v)]) hx hb dJ6_getChars_ba4f3_21 rfl hl (by decide) rfl (fun ls hl => ?_)
  refine lv_iload_n hx hb dJ6_getChars_ba4f3_22 rfl (lv_at hl 0 rfl) ?_
  refine lv_bipush (v := (-100)) hx hb dJ6_getChars_ba4f3_23 (by decide) ?_
  refine lv_icmp_gt (tgt := 72) hx hb dJ6_getChars_ba4f3_25 (by decide) (fun c_25 => ?_) (fun c_25 => absurd (gc_neg d hd) c_25)
  refine lv_aload_n hx hb dJ6_getChars_ba4f3_72 rfl (lv_at hl 4 rfl) ?_
  refine lv_iinc (v := nI n) (lv' := [(5, .int (nI n)), (0, .int (-(nI d))), (6, .int 0), (1, .int (nI (n + 1))), (2, .ref v)]) hx hb dJ6_getChars_ba4f3_73 hl (k := 2) rfl (nI_dec _) (by decide) rfl (fun ls hl => ?_)
  refine lv_iload hx hb dJ6_getChars_ba4f3_76 (lv_at hl 0 rfl) ?_
  refine va_gets (A := fr N0) hx hb FZ.2.1 hS S.2.2.2.1 (S.2.2.2.2 _ fl_RJ6_83) (fun _ h => h) dJ6_getChars_ba4f3_78 ?_
  refine lv_iload_n hx hb dJ6_getChars_ba4f3_81 rfl (lv_at hl 1 rfl) ?_
  refine lv_ineg hx hb dJ6_getChars_ba4f3_82 ?_
  refine lv_tope (y := nI d) (gc_nn d hd) ?_
  refine va_tb hx hb FZ.2.2 hS (v := .int (dgO d)) (i := nI d) (vp_in_nI (by omega) (by decide)) (by rw [nI_clamp (by omega)]) dJ6_getChars_ba4f3_83 ?_
  refine bbst (lw' := [(q, .inr (9, [.ref v, .int 0, .int 0, .int (nI n)])), (v, .inl (ct 7, 16, .inl (upd f n (dgO d))))]) 1 S X0 hP hD hS rfl (by omega) (by omega) (dg_nar _ (by omega)) rfl dJ6_getChars_ba4f3_84 (fun H locs hP hD hS => ?_)
  refine lv_iload_n hx hb dJ6_getChars_ba4f3_85 rfl (lv_at hl 1 rfl) ?_
  refine lv_bipush (v := (-9)) hx hb dJ6_getChars_ba4f3_86 (by decide) ?_
  refine lv_icmp_ge (tgt := 104) hx hb dJ6_getChars_ba4f3_88 (by decide) (fun c_88 => ?_) (fun c_88 => absurd (gc_ge d hd) c_88)
  refine lv_iload hx hb dJ6_getChars_ba4f3_104 (lv_at hl 2 rfl) ?_
  refine lv_if_eq (tgt := 118) hx hb dJ6_getChars_ba4f3_106 (by decide) (fun c_106 => ?_) (fun c_106 => absurd rfl c_106)
  refine lv_iload hx hb dJ6_getChars_ba4f3_118 (lv_at hl 0 rfl) ?_
  refine eBi (L := (fun _ => B ++ [(q, .inr (9, [.ref v, .int 0, .int 0, .int (nI n)])), (v, .inl (ct 7, 16, .inl (upd f n (dgO d))))])) (fun _ => 0) S hr hlocks hP hD hS ?_ dJ6_getChars_ba4f3_120
  exact ⟨(by first | decide | (show _ ≤ 0; omega)), (by first | decide | (show _ ≤ 6 * 0; omega))⟩

theorem kb_yJ5_isLatin1_aae02 : COB yJ5_isLatin1_aae02 cJ5_isLatin1_aae02 1 (Option.some FieldType.boolean) 0 := ⟨in_RJ5, co_yJ5_isLatin1_aae02, ⟨by decide +kernel, by decide +kernel, by decide +kernel⟩, by decide⟩
set_option maxHeartbeats 4000000 in
set_option maxRecDepth 100000 in
theorem b_J5_isLatin1_aae02 (l : Launch) {D : va_G} {ct : Nat → ClassId} {N0 : Nat} {F : State → Prop} {ek : Nat → Nat} (cs : Nat → Nat) {dg : Nat} (hF : ∀ U, F U → FX ek cs N0 U) (hZ : ∀ U, F U → SBF dg N0 U) (ws : va_W) (k : Nat) (q : Nat) (v : Nat) (n : Nat) (he : ws[k]? = some (q, .inr (9, [.ref v, .int 0, .int 0, .int (nI n)]))) :
    MB l yJ5_isLatin1_aae02 cJ5_isLatin1_aae02 1 (Option.some FieldType.boolean) 1 0 D ct N0 F [.ref q] ws (fun _ => some (.int 1)) (fun _ => ws) := by
  refine msB (own := RJ5) (by decide +kernel) rfl (Nat.le_of_ble_eq_true rfl) (fun p e s m args below meth c S hr hlocks hmn X0 hP hD hS ls hl => ?_)
  have hx := S.1
  have hb := S.2.1
  have FC := hF s X0.2.2.2.2.2
  have FZ := hZ s X0.2.2.2.2.2
  replace hl : lv_has ls 1 [(0, .ref q)] := hl
  refine va_gets (A := fr N0) hx hb FC.comp hS S.2.2.2.1 (S.2.2.2.2 _ fl_RJ5_18) (fun _ h => h) dJ5_isLatin1_aae02_0 ?_
  refine lv_if_eq (tgt := 17) hx hb dJ5_isLatin1_aae02_3 (by decide) (fun c_3 => absurd c_3 (by decide)) (fun c_3 => ?_)
  refine lv_aload_n hx hb dJ5_isLatin1_aae02_6 rfl (lv_at hl 0 rfl) ?_
  refine bget (C := RJ4) (T := TJ4) (N := 4) k 1 S X0 hP rfl inJ4 fl_RJ5_22 he (by decide) rfl dJ5_isLatin1_aae02_7 ?_
  refine lv_if_ne (tgt := 17) hx hb dJ5_isLatin1_aae02_10 (by decide) (fun c_10 => absurd rfl c_10) (fun c_10 => ?_)
  refine lv_iconst (v := 1) hx hb dJ5_isLatin1_aae02_13 (by decide) ?_
  refine lv_goto (tgt := 18) hx hb dJ5_isLatin1_aae02_14 (by decide) ?_
  refine eBz (L := (fun _ => ws)) (fun _ => 0) S hr hlocks hP hD hS ?_ (by decide) dJ5_isLatin1_aae02_18
  exact ⟨(by first | decide | (show _ ≤ 0; omega)), (by first | decide | (show _ ≤ 6 * 0; omega))⟩

theorem kb_yJ5_append_c97b9 : COB yJ5_append_c97b9 cJ5_append_c97b9 4 (Option.some (FieldType.object RJ5)) 1 := ⟨in_RJ5, co_yJ5_append_c97b9, ⟨by decide +kernel, by decide +kernel, by decide +kernel⟩, by decide⟩
set_option maxHeartbeats 4000000 in
set_option maxRecDepth 100000 in
theorem b_J5_append_c97b9 (l : Launch) {D : va_G} {ct : Nat → ClassId} {N0 : Nat} {F : State → Prop} {ek : Nat → Nat} (cs : Nat → Nat) {dg : Nat} (hF : ∀ U, F U → FX ek cs N0 U) (hZ : ∀ U, F U → SBF dg N0 U) (B : va_W) (q : Nat) (v : Nat) (n : Nat) (f : Nat → Int32) (d : Nat) (hd : d < 10) (hn : n < 16) :
    MB l yJ5_append_c97b9 cJ5_append_c97b9 4 (Option.some (FieldType.object RJ5)) 2 0 D ct N0 F [.ref q, .int (nI d)] (B ++ [(q, .inr (9, [.ref v, .int 0, .int 0, .int (nI n)])), (v, .inl (ct 7, 16, .inl f))]) (fun g => some (.ref q)) (fun _ => B ++ [(q, .inr (9, [.ref v, .int 0, .int 0, .int (nI (n + 1))])), (v, .inl (ct 7, 16, .inl (upd f n (dgO d))))]) := by
  refine msB (own := RJ5) (by decide +kernel) rfl (Nat.le_of_ble_eq_true rfl) (fun p e s m args below meth c S hr hlocks hmn X0 hP hD hS ls hl => ?_)
  have hx := S.1
  have hb := S.2.1
  have FC := hF s X0.2.2.2.2.2
  have FZ := hZ s X0.2.2.2.2.2
  replace hl : lv_has ls 4 [(0, .ref q), (1, .int (nI d))] := hl
  refine lv_aload_n hx hb dJ5_append_c97b9_0 rfl (lv_at hl 0 rfl) ?_
  refine bget (C := RJ4) (T := TJ4) (N := 4) (B.length + 0) 3 S X0 hP rfl inJ4 fl_RJ5_79 (at_B (j := 0) rfl) (by decide) rfl dJ5_append_c97b9_1 ?_
  refine lv_istore_n (lv' := [(2, .int (nI n)), (0, .ref q), (1, .int (nI d))]) hx hb dJ5_append_c97b9_4 rfl hl (by decide) rfl (fun ls hl => ?_)
  refine lv_iload_n hx hb dJ5_append_c97b9_5 rfl (lv_at hl 0 rfl) ?_
  refine lv_iload_n hx hb dJ5_append_c97b9_6 rfl (lv_at hl 2 rfl) ?_
  refine bS (As := [.int (nI d)]) S X0 (b_J6_stringSize_0f7a4 l cs hF hZ _ d hd) kb_yJ6_stringSize_0f7a4 ml_RJ5_245 sm_yJ6_stringSize_0f7a4 hP hD hS hl.1 ⟨by decide, by decide⟩ rfl (by rfl) (Nat.le_of_ble_eq_true rfl) ⟨(by first | decide | (show _ ≤ 0; omega)), (by first | decide | (show _ ≤ 6 * 0; omega))⟩ dJ5_append_c97b9_7 (fun _ H locs hP hD hS => ?_)
  refine nadd hx hb n 1 dJ5_append_c97b9_10 rfl rfl ?_
  refine lv_istore_n (lv' := [(3, .int (nI (n + 1))), (2, .int (nI n)), (0, .ref q), (1, .int (nI d))]) hx hb dJ5_append_c97b9_11 rfl hl (by decide) rfl (fun ls hl => ?_)
  refine lv_aload_n hx hb dJ5_append_c97b9_12 rfl (lv_at hl 2 rfl) ?_
  refine lv_iload_n hx hb dJ5_append_c97b9_13 rfl (lv_at hl 0 rfl) ?_
  refine bV (As := [.int (nI (n + 1))]) (C := RJ4) S X0 (b_J5_ensureCapacityInternal_d00df l cs hF hZ B q v n f (n + 1) (by omega)) kb_yJ5_ensureCapacityInternal_d00df ml_RJ5_100 im_yJ5_ensureCapacityInternal_d00df (FZ.se List.mem_cons_self) (va_recv (q0 := B.length) X0.1 hP (ci := 9) rfl (at_B (j := 0) rfl)) hP hD hS hl.1 ⟨by decide, by decide⟩ rfl (by rfl) (Nat.le_of_ble_eq_true rfl) ⟨(by first | decide | (show _ ≤ 0; omega)), (by first | decide | (show _ ≤ 6 * 0; omega))⟩ dJ5_append_c97b9_14 (fun _ H locs hP hD hS => ?_)
  refine lv_aload_n hx hb dJ5_append_c97b9_17 rfl (lv_at hl 2 rfl) ?_
  refine bV (As := []) (C := RJ4) S X0 (b_J5_isLatin1_aae02 l cs hF hZ _ B.length q v n (at_B (j := 0) rfl)) kb_yJ5_isLatin1_aae02 ml_RJ5_83 im_yJ5_isLatin1_aae02 (S.2.2.2.2 _ sl_lat) (va_recv (q0 := B.length) X0.1 hP (ci := 9) rfl (at_B (j := 0) rfl)) hP hD hS hl.1 ⟨by decide, by decide⟩ rfl (by rfl) (Nat.le_of_ble_eq_true rfl) ⟨(by first | decide | (show _ ≤ 0; omega)), (by first | decide | (show _ ≤ 6 * 0; omega))⟩ dJ5_append_c97b9_18 (fun _ H locs hP hD hS => ?_)
  refine lv_if_eq (tgt := 37) hx hb dJ5_append_c97b9_21 (by decide) (fun c_21 => absurd c_21 (by decide)) (fun c_21 => ?_)
  refine lv_iload_n hx hb dJ5_append_c97b9_24 rfl (lv_at hl 3 rfl) ?_
  refine lv_iload_n hx hb dJ5_append_c97b9_25 rfl (lv_at hl 0 rfl) ?_
  refine lv_aload_n hx hb dJ5_append_c97b9_26 rfl (lv_at hl 2 rfl) ?_
  refine bget (C := RJ4) (T := TJ4) (N := 4) (B.length + 0) 0 S X0 hP rfl inJ4 fl_RJ5_15 (at_B (j := 0) rfl) (by decide) rfl dJ5_append_c97b9_27 ?_
  refine bS (As := [.int (nI d), .int (nI (n + 1)), .ref v]) S X0 (b_J6_getChars_ba4f3 l cs hF hZ B q v n f d hd hn) kb_yJ6_getChars_ba4f3 ml_RJ5_248 sm_yJ6_getChars_ba4f3 hP hD hS hl.1 ⟨by decide, by decide⟩ rfl (by rfl) (Nat.le_of_ble_eq_true rfl) ⟨(by first | decide | (show _ ≤ 0; omega)), (by first | decide | (show _ ≤ 6 * 0; omega))⟩ dJ5_append_c97b9_30 (fun _ H locs hP hD hS => ?_)
  replace hP : va_P D vcl (B ++ [(q, .inr (9, [.ref v, .int 0, .int 0, .int (nI n)])), (v, .inl (ct 7, 16, .inl (upd f n (dgO d))))]) H := hP
  replace hD : va_D (fr N0) (B ++ [(q, .inr (9, [.ref v, .int 0, .int 0, .int (nI n)])), (v, .inl (ct 7, 16, .inl (upd f n (dgO d))))]) := hD
  refine lv_pop hx hb dJ5_append_c97b9_33 rfl ?_
  refine lv_goto (tgt := 48) hx hb dJ5_append_c97b9_34 (by decide) ?_
  refine lv_aload_n hx hb dJ5_append_c97b9_48 rfl (lv_at hl 2 rfl) ?_
  refine lv_iload_n hx hb dJ5_append_c97b9_49 rfl (lv_at hl 0 rfl) ?_
  refine bput (C := RJ4) (T := TJ4) (N := 4) (lw' := [(q, .inr (9, [.ref v, .int 0, .int 0, .int (nI (n + 1))])), (v, .inl (ct 7, 16, .inl (upd f n (dgO d))))]) 0 3 S X0 hP hD hS tyJ4 tyJ4_ok nmJ4 rfl inJ4 fl_RJ5_79 rfl rfl (by decide) rfl rfl rfl (Nat.le_of_ble_eq_true rfl) dJ5_append_c97b9_50 (fun H locs hP hD hS => ?_)
  refine lv_aload_n hx hb dJ5_append_c97b9_53 rfl (lv_at hl 2 rfl) ?_
  refine eBa (a := (fun g => q)) (L := (fun _ => B ++ [(q, .inr (9, [.ref v, .int 0, .int 0, .int (nI (n + 1))])), (v, .inl (ct 7, 16, .inl (upd f n (dgO d))))])) (fun _ => 0) S hr (Or.inl ⟨_, rfl⟩) hlocks hP hD hS ?_ dJ5_append_c97b9_54
  exact ⟨(by first | decide | (show _ ≤ 0; omega)), (by first | decide | (show _ ≤ 6 * 0; omega))⟩

theorem kb_yJ4_append_bf812 : COB yJ4_append_bf812 cJ4_append_bf812 2 (Option.some (FieldType.object RJ4)) 1 := ⟨in_RJ4, co_yJ4_append_bf812, ⟨by decide +kernel, by decide +kernel, by decide +kernel⟩, by decide⟩
set_option maxHeartbeats 4000000 in
set_option maxRecDepth 100000 in
theorem b_J4_append_bf812 (l : Launch) {D : va_G} {ct : Nat → ClassId} {N0 : Nat} {F : State → Prop} {ek : Nat → Nat} (cs : Nat → Nat) {dg : Nat} (hF : ∀ U, F U → FX ek cs N0 U) (hZ : ∀ U, F U → SBF dg N0 U) (B : va_W) (q : Nat) (v : Nat) (n : Nat) (f : Nat → Int32) (d : Nat) (hd : d < 10) (hn : n < 16) :
    MB l yJ4_append_bf812 cJ4_append_bf812 2 (Option.some (FieldType.object RJ4)) 3 0 D ct N0 F [.ref q, .int (nI d)] (B ++ [(q, .inr (9, [.ref v, .int 0, .int 0, .int (nI n)])), (v, .inl (ct 7, 16, .inl f))]) (fun g => some (.ref q)) (fun _ => B ++ [(q, .inr (9, [.ref v, .int 0, .int 0, .int (nI (n + 1))])), (v, .inl (ct 7, 16, .inl (upd f n (dgO d))))]) := by
  refine msB (own := RJ4) (by decide +kernel) rfl (Nat.le_of_ble_eq_true rfl) (fun p e s m args below meth c S hr hlocks hmn X0 hP hD hS ls hl => ?_)
  have hx := S.1
  have hb := S.2.1
  have FC := hF s X0.2.2.2.2.2
  have FZ := hZ s X0.2.2.2.2.2
  replace hl : lv_has ls 2 [(0, .ref q), (1, .int (nI d))] := hl
  refine lv_aload_n hx hb dJ4_append_bf812_0 rfl (lv_at hl 0 rfl) ?_
  refine lv_iload_n hx hb dJ4_append_bf812_1 rfl (lv_at hl 1 rfl) ?_
  refine bSU (As := [.int (nI d)]) (X0.1.1 9 _ rfl).2 S X0 (b_J5_append_c97b9 l cs hF hZ B q v n f d hd hn) kb_yJ5_append_c97b9 (by decide) ml_RJ4_53 sa_apI su_RJ4 im_yJ5_append_c97b9 (va_recv (q0 := B.length) X0.1 hP (ci := 9) rfl (at_B (j := 0) rfl)) hP hD hS hl.1 ⟨by decide, by decide⟩ rfl (by rfl) (Nat.le_of_ble_eq_true rfl) ⟨(by first | decide | (show _ ≤ 0; omega)), (by first | decide | (show _ ≤ 6 * 0; omega))⟩ dJ4_append_bf812_2 (fun _ H locs hP hD hS => ?_)
  replace hP : va_P D vcl (B ++ [(q, .inr (9, [.ref v, .int 0, .int 0, .int (nI (n + 1))])), (v, .inl (ct 7, 16, .inl (upd f n (dgO d))))]) H := hP
  replace hD : va_D (fr N0) (B ++ [(q, .inr (9, [.ref v, .int 0, .int 0, .int (nI (n + 1))])), (v, .inl (ct 7, 16, .inl (upd f n (dgO d))))]) := hD
  refine lv_pop hx hb dJ4_append_bf812_5 rfl ?_
  refine lv_aload_n hx hb dJ4_append_bf812_6 rfl (lv_at hl 0 rfl) ?_
  refine eBa (a := (fun g => q)) (L := (fun _ => B ++ [(q, .inr (9, [.ref v, .int 0, .int 0, .int (nI (n + 1))])), (v, .inl (ct 7, 16, .inl (upd f n (dgO d))))])) (fun _ => 0) S hr (Or.inl ⟨_, rfl⟩) hlocks hP hD hS ?_ dJ4_append_bf812_7
  exact ⟨(by first | decide | (show _ ≤ 0; omega)), (by first | decide | (show _ ≤ 6 * 0; omega))⟩

theorem kb_yJ5_getValue_6d5f1 : COB yJ5_getValue_6d5f1 cJ5_getValue_6d5f1 1 (Option.some (FieldType.array FieldType.byte)) 0 := ⟨in_RJ5, co_yJ5_getValue_6d5f1, ⟨by decide +kernel, by decide +kernel, by decide +kernel⟩, by decide⟩
set_option maxHeartbeats 4000000 in
set_option maxRecDepth 100000 in
theorem b_J5_getValue_6d5f1 (l : Launch) {D : va_G} {ct : Nat → ClassId} {N0 : Nat} {F : State → Prop} {ek : Nat → Nat} (cs : Nat → Nat) {dg : Nat} (hF : ∀ U, F U → FX ek cs N0 U) (hZ : ∀ U, F U → SBF dg N0 U) (ws : va_W) (k : Nat) (q : Nat) (v : Nat) (n : Nat) (he : ws[k]? = some (q, .inr (9, [.ref v, .int 0, .int 0, .int (nI n)]))) :
    MB l yJ5_getValue_6d5f1 cJ5_getValue_6d5f1 1 (Option.some (FieldType.array FieldType.byte)) 1 0 D ct N0 F [.ref q] ws (fun g => some (.ref v)) (fun _ => ws) := by
  refine msB (own := RJ5) (by decide +kernel) rfl (Nat.le_of_ble_eq_true rfl) (fun p e s m args below meth c S hr hlocks hmn X0 hP hD hS ls hl => ?_)
  have hx := S.1
  have hb := S.2.1
  have FC := hF s X0.2.2.2.2.2
  have FZ := hZ s X0.2.2.2.2.2
  replace hl : lv_has ls 1 [(0, .ref q)] := hl
  refine lv_aload_n hx hb dJ5_getValue_6d5f1_0 rfl (lv_at hl 0 rfl) ?_
  refine bget (C := RJ4) (T := TJ4) (N := 4) k 0 S X0 hP rfl inJ4 fl_RJ5_15 he (by decide) rfl dJ5_getValue_6d5f1_1 ?_
  refine eBa (a := (fun g => v)) (L := (fun _ => ws)) (fun _ => 0) S hr (Or.inr ⟨_, rfl⟩) hlocks hP hD hS ?_ dJ5_getValue_6d5f1_4
  exact ⟨(by first | decide | (show _ ≤ 0; omega)), (by first | decide | (show _ ≤ 6 * 0; omega))⟩

theorem kb_yJ5_length_8abf5 : COB yJ5_length_8abf5 cJ5_length_8abf5 1 (Option.some FieldType.int) 0 := ⟨in_RJ5, co_yJ5_length_8abf5, ⟨by decide +kernel, by decide +kernel, by decide +kernel⟩, by decide⟩
set_option maxHeartbeats 4000000 in
set_option maxRecDepth 100000 in
theorem b_J5_length_8abf5 (l : Launch) {D : va_G} {ct : Nat → ClassId} {N0 : Nat} {F : State → Prop} {ek : Nat → Nat} (cs : Nat → Nat) {dg : Nat} (hF : ∀ U, F U → FX ek cs N0 U) (hZ : ∀ U, F U → SBF dg N0 U) (ws : va_W) (k : Nat) (q : Nat) (v : Nat) (n : Nat) (he : ws[k]? = some (q, .inr (9, [.ref v, .int 0, .int 0, .int (nI n)]))) :
    MB l yJ5_length_8abf5 cJ5_length_8abf5 1 (Option.some FieldType.int) 1 0 D ct N0 F [.ref q] ws (fun _ => some (.int (nI n))) (fun _ => ws) := by
  refine msB (own := RJ5) (by decide +kernel) rfl (Nat.le_of_ble_eq_true rfl) (fun p e s m args below meth c S hr hlocks hmn X0 hP hD hS ls hl => ?_)
  have hx := S.1
  have hb := S.2.1
  have FC := hF s X0.2.2.2.2.2
  have FZ := hZ s X0.2.2.2.2.2
  replace hl : lv_has ls 1 [(0, .ref q)] := hl
  refine lv_aload_n hx hb dJ5_length_8abf5_0 rfl (lv_at hl 0 rfl) ?_
  refine bget (C := RJ4) (T := TJ4) (N := 4) k 3 S X0 hP rfl inJ4 fl_RJ5_79 he (by decide) rfl dJ5_length_8abf5_1 ?_
  refine eBi (L := (fun _ => ws)) (fun _ => 0) S hr hlocks hP hD hS ?_ dJ5_length_8abf5_4
  exact ⟨(by first | decide | (show _ ≤ 0; omega)), (by first | decide | (show _ ≤ 6 * 0; omega))⟩

theorem kb_yJ4_length_8abf5 : COB yJ4_length_8abf5 cJ4_length_8abf5 1 (Option.some FieldType.int) 0 := ⟨in_RJ4, co_yJ4_length_8abf5, ⟨by decide +kernel, by decide +kernel, by decide +kernel⟩, by decide⟩
set_option maxHeartbeats 4000000 in
set_option maxRecDepth 100000 in
theorem b_J4_length_8abf5 (l : Launch) {D : va_G} {ct : Nat → ClassId} {N0 : Nat} {F : State → Prop} {ek : Nat → Nat} (cs : Nat → Nat) {dg : Nat} (hF : ∀ U, F U → FX ek cs N0 U) (hZ : ∀ U, F U → SBF dg N0 U) (ws : va_W) (k : Nat) (q : Nat) (v : Nat) (n : Nat) (he : ws[k]? = some (q, .inr (9, [.ref v, .int 0, .int 0, .int (nI n)]))) :
    MB l yJ4_length_8abf5 cJ4_length_8abf5 1 (Option.some FieldType.int) 2 0 D ct N0 F [.ref q] ws (fun _ => some (.int (nI n))) (fun _ => ws) := by
  refine msB (own := RJ4) (by decide +kernel) rfl (Nat.le_of_ble_eq_true rfl) (fun p e s m args below meth c S hr hlocks hmn X0 hP hD hS ls hl => ?_)
  have hx := S.1
  have hb := S.2.1
  have FC := hF s X0.2.2.2.2.2
  have FZ := hZ s X0.2.2.2.2.2
  replace hl : lv_has ls 1 [(0, .ref q)] := hl
  refine lv_aload_n hx hb dJ4_length_8abf5_0 rfl (lv_at hl 0 rfl) ?_
  refine bSU (As := []) (X0.1.1 9 _ rfl).2 S X0 (b_J5_length_8abf5 l cs hF hZ ws k q v n he) kb_yJ5_length_8abf5 (by decide) ml_RJ4_343 sa_len su_RJ4 im_yJ5_length_8abf5 (va_recv (q0 := k) X0.1 hP (ci := 9) rfl he) hP hD hS hl.1 ⟨by decide, by decide⟩ rfl (by rfl) (Nat.le_of_ble_eq_true rfl) ⟨(by first | decide | (show _ ≤ 0; omega)), (by first | decide | (show _ ≤ 6 * 0; omega))⟩ dJ4_length_8abf5_1 (fun _ H locs hP hD hS => ?_)
  refine eBi (L := (fun _ => ws)) (fun _ => 0) S hr hlocks hP hD hS ?_ dJ4_length_8abf5_4
  exact ⟨(by first | decide | (show _ ≤ 0; omega)), (by first | decide | (show _ ≤ 6 * 0; omega))⟩

theorem kb_yJ7_checkLength_df160 : COB yJ7_checkLength_df160 cJ7_checkLength_df160 2 (Option.none : Option FieldType) 2 := ⟨in_RJ7, co_yJ7_checkLength_df160, ⟨by decide +kernel, by decide +kernel, by decide +kernel⟩, by decide⟩
set_option maxHeartbeats 4000000 in
set_option maxRecDepth 100000 in
theorem b_J7_checkLength_df160 (l : Launch) {D : va_G} {ct : Nat → ClassId} {N0 : Nat} {F : State → Prop} {ek : Nat → Nat} (cs : Nat → Nat) {dg : Nat} (hF : ∀ U, F U → FX ek cs N0 U) (hZ : ∀ U, F U → SBF dg N0 U) (ws : va_W) (n : Nat) (hn : n < 16) :
    MB l yJ7_checkLength_df160 cJ7_checkLength_df160 2 (Option.none : Option FieldType) 1 0 D ct N0 F [.int 0, .int (nI n)] ws (fun _ => none) (fun _ => ws) := by
  refine msB (own := RJ7) (by decide +kernel) rfl (Nat.le_of_ble_eq_true rfl) (fun p e s m args below meth c S hr hlocks hmn X0 hP hD hS ls hl => ?_)
  have hx := S.1
  have hb := S.2.1
  have FC := hF s X0.2.2.2.2.2
  have FZ := hZ s X0.2.2.2.2.2
  replace hl : lv_has ls 2 [(0, .int 0), (1, .int (nI n))] := hl
  refine lv_iload_n hx hb dJ7_checkLength_df160_0 rfl (lv_at hl 1 rfl) ?_
  refine lv_iload_n hx hb dJ7_checkLength_df160_1 rfl (lv_at hl 0 rfl) ?_
  refine lv_icmp_ge (tgt := 37) hx hb dJ7_checkLength_df160_2 (by decide) (fun c_2 => ?_) (fun c_2 => absurd (nI_pos' (by omega)) c_2)
  refine eBv (L := (fun _ => ws)) (fun _ => 0) S hr hlocks hP hD hS ?_ dJ7_checkLength_df160_37
  exact ⟨(by first | decide | (show _ ≤ 0; omega)), (by first | decide | (show _ ≤ 6 * 0; omega))⟩

theorem kb_yJ7_copyOfRangeByte_39247 : COB yJ7_copyOfRangeByte_39247 cJ7_copyOfRangeByte_39247 5 (Option.some (FieldType.array FieldType.byte)) 3 := ⟨in_RJ7, co_yJ7_copyOfRangeByte_39247, ⟨by decide +kernel, by decide +kernel, by decide +kernel⟩, by decide⟩
set_option maxHeartbeats 4000000 in
set_option maxRecDepth 100000 in
theorem b_J7_copyOfRangeByte_39247 (l : Launch) {D : va_G} {ct : Nat → ClassId} {N0 : Nat} {F : State → Prop} {ek : Nat → Nat} (cs : Nat → Nat) {dg : Nat} (hF : ∀ U, F U → FX ek cs N0 U) (hZ : ∀ U, F U → SBF dg N0 U) (B : va_W) (c0 : Nat × va_E) (c2 : Nat × va_E) (v : Nat) (n : Nat) (f : Nat → Int32) (hn : n < 16) (hfit : ∀ j, j < 16 → fits .byte (.int (f j)) = true) :
    MB l yJ7_copyOfRangeByte_39247 cJ7_copyOfRangeByte_39247 5 (Option.some (FieldType.array FieldType.byte)) 2 3 D ct N0 F [.ref v, .int 0, .int (nI n)] (B ++ [c0, (v, .inl (ct 7, 16, .inl f)), c2]) (fun g => some (.ref (g 0))) (fun g => B ++ [c0, (v, .inl (ct 7, 16, .inl f)), c2, ((g 0), .inl (ct 7, n, .inl (va_cpy f (fun _ => 0) 0 0 n)))]) := by
  refine msB (own := RJ7) (by decide +kernel) rfl (Nat.le_of_ble_eq_true rfl) (fun p e s m args below meth c S hr hlocks hmn X0 hP hD hS ls hl => ?_)
  have hx := S.1
  have hb := S.2.1
  have FC := hF s X0.2.2.2.2.2
  have FZ := hZ s X0.2.2.2.2.2
  replace hl : lv_has ls 5 [(0, .ref v), (1, .int 0), (2, .int (nI n))] := hl
  refine lv_iload_n hx hb dJ7_copyOfRangeByte_39247_0 rfl (lv_at hl 1 rfl) ?_
  refine lv_iload_n hx hb dJ7_copyOfRangeByte_39247_1 rfl (lv_at hl 2 rfl) ?_
  refine bS (As := [.int 0, .int (nI n)]) S X0 (b_J7_checkLength_df160 l cs hF hZ _ n hn) kb_yJ7_checkLength_df160 ml_RJ7_343 sm_yJ7_checkLength_df160 hP hD hS hl.1 ⟨by decide, by decide⟩ rfl (by rfl) (Nat.le_of_ble_eq_true rfl) ⟨(by first | decide | (show _ ≤ 3; omega)), (by first | decide | (show _ ≤ 6 * 3; omega))⟩ dJ7_copyOfRangeByte_39247_2 (fun _ H locs hP hD hS => ?_)
  refine lv_iload_n hx hb dJ7_copyOfRangeByte_39247_5 rfl (lv_at hl 2 rfl) ?_
  refine lv_iload_n hx hb dJ7_copyOfRangeByte_39247_6 rfl (lv_at hl 1 rfl) ?_
  refine nsub hx hb n 0 dJ7_copyOfRangeByte_39247_7 rfl (by decide) (by omega) ?_
  refine lv_istore_n (lv' := [(3, .int (nI (n - 0))), (0, .ref v), (1, .int 0), (2, .int (nI n))]) hx hb dJ7_copyOfRangeByte_39247_8 rfl hl (by decide) rfl (fun ls hl => ?_)
  refine lv_iload_n hx hb dJ7_copyOfRangeByte_39247_9 rfl (lv_at hl 0 rfl) ?_
  refine nA 7 S X0 hP hD hS (atype := .byte) (ty := .byte) (a0 := (n - 0, .inl (fun _ => 0))) (N' := n - 0) rfl ac_byte rfl (fun _ _ h => h) (fun _ => rfl) (by first | decide | exact nI_pos (by omega)) (by first | decide | exact nI_clamp (by omega)) (by show _ * 1 ≤ _; omega) ⟨(by first | decide | (show _ ≤ 3; omega)), (by first | decide | (show _ ≤ 6 * 3; omega))⟩ dJ7_copyOfRangeByte_39247_10 (fun v_1 H hP hD hS => ?_)
  rw [List.append_assoc] at hP hD
  replace hP : va_P D vcl (B ++ [c0, (v, .inl (ct 7, 16, .inl f)), c2, (v_1, .inl (ct 7, n - 0, .inl (fun _ => 0)))]) H := hP
  replace hD : va_D (fr N0) (B ++ [c0, (v, .inl (ct 7, 16, .inl f)), c2, (v_1, .inl (ct 7, n - 0, .inl (fun _ => 0)))]) := hD
  refine lv_astore (lv' := [(4, .ref v_1), (3, .int (nI (n - 0))), (0, .ref v), (1, .int 0), (2, .int (nI n))]) hx hb dJ7_copyOfRangeByte_39247_12 hl (by decide) rfl (fun ls hl => ?_)
  refine lv_aload_n hx hb dJ7_copyOfRangeByte_39247_14 rfl (lv_at hl 2 rfl) ?_
  refine lv_iload_n hx hb dJ7_copyOfRangeByte_39247_15 rfl (lv_at hl 3 rfl) ?_
  refine lv_aload hx hb dJ7_copyOfRangeByte_39247_16 (lv_at hl 0 rfl) ?_
  refine lv_iconst (v := 0) hx hb dJ7_copyOfRangeByte_39247_18 (by decide) ?_
  refine lv_aload_n hx hb dJ7_copyOfRangeByte_39247_19 rfl (lv_at hl 2 rfl) ?_
  refine balen (B.length + 1) S X0 hP (at_B (j := 1) rfl) dJ7_copyOfRangeByte_39247_20 ?_
  refine lv_iload_n hx hb dJ7_copyOfRangeByte_39247_21 rfl (lv_at hl 3 rfl) ?_
  refine nsub hx hb 16 0 dJ7_copyOfRangeByte_39247_22 rfl (by decide) (by decide) ?_
  refine lv_iload_n hx hb dJ7_copyOfRangeByte_39247_23 rfl (lv_at hl 1 rfl) ?_
  refine rmin S rfl (by decide) hl.1 ml_RJ7_304 (Nat.le_of_ble_eq_true rfl) ⟨(by first | decide | (show _ ≤ 3; omega)), (by first | decide | (show _ ≤ 6 * 3; omega))⟩ dJ7_copyOfRangeByte_39247_24 ?_
  refine lv_tope (y := nI n) (mn_n n hn) ?_
  refine bcpB (lw' := [c0, (v, .inl (ct 7, 16, .inl f)), c2, (v_1, .inl (ct 7, n - 0, .inl (va_cpy f (fun _ => 0) 0 0 n)))]) 1 3 S X0 hl.1 ⟨by decide, by decide⟩ ml_RJ7_150 hP hD hS rfl rfl ⟨by omega, by omega, by omega⟩ (fun j hj => hfit j (by omega)) rfl dJ7_copyOfRangeByte_39247_27 (fun H locs hP hD hS => ?_)
  refine lv_aload hx hb dJ7_copyOfRangeByte_39247_30 (lv_at hl 0 rfl) ?_
  refine eBa (a := (fun g => g 0)) (L := (fun g => B ++ [c0, (v, .inl (ct 7, 16, .inl f)), c2, ((g 0), .inl (ct 7, n, .inl (va_cpy f (fun _ => 0) 0 0 n)))])) (fun _ => v_1) S hr (Or.inr ⟨_, rfl⟩) hlocks hP hD hS ?_ dJ7_copyOfRangeByte_39247_32
  exact ⟨(by first | decide | (show _ ≤ 3; omega)), (by first | decide | (show _ ≤ 6 * 3; omega))⟩

theorem kb_yJ7_copyOfRange_39247 : COB yJ7_copyOfRange_39247 cJ7_copyOfRange_39247 3 (Option.some (FieldType.array FieldType.byte)) 3 := ⟨in_RJ7, co_yJ7_copyOfRange_39247, ⟨by decide +kernel, by decide +kernel, by decide +kernel⟩, by decide⟩
set_option maxHeartbeats 4000000 in
set_option maxRecDepth 100000 in
theorem b_J7_copyOfRange_39247 (l : Launch) {D : va_G} {ct : Nat → ClassId} {N0 : Nat} {F : State → Prop} {ek : Nat → Nat} (cs : Nat → Nat) {dg : Nat} (hF : ∀ U, F U → FX ek cs N0 U) (hZ : ∀ U, F U → SBF dg N0 U) (B : va_W) (c0 : Nat × va_E) (c2 : Nat × va_E) (v : Nat) (n : Nat) (f : Nat → Int32) (hn : n < 16) (hfit : ∀ j, j < 16 → fits .byte (.int (f j)) = true) :
    MB l yJ7_copyOfRange_39247 cJ7_copyOfRange_39247 3 (Option.some (FieldType.array FieldType.byte)) 3 3 D ct N0 F [.ref v, .int 0, .int (nI n)] (B ++ [c0, (v, .inl (ct 7, 16, .inl f)), c2]) (fun g => some (.ref (g 0))) (fun g => B ++ [c0, (v, .inl (ct 7, 16, .inl f)), c2, ((g 0), .inl (ct 7, n, .inl (va_cpy f (fun _ => 0) 0 0 n)))]) := by
  refine msB (own := RJ7) (by decide +kernel) rfl (Nat.le_of_ble_eq_true rfl) (fun p e s m args below meth c S hr hlocks hmn X0 hP hD hS ls hl => ?_)
  have hx := S.1
  have hb := S.2.1
  have FC := hF s X0.2.2.2.2.2
  have FZ := hZ s X0.2.2.2.2.2
  replace hl : lv_has ls 3 [(0, .ref v), (1, .int 0), (2, .int (nI n))] := hl
  refine lv_iload_n hx hb dJ7_copyOfRange_39247_0 rfl (lv_at hl 1 rfl) ?_
  refine lv_if_ne (tgt := 10) hx hb dJ7_copyOfRange_39247_1 (by decide) (fun c_1 => absurd rfl c_1) (fun c_1 => ?_)
  refine lv_iload_n hx hb dJ7_copyOfRange_39247_4 rfl (lv_at hl 2 rfl) ?_
  refine lv_aload_n hx hb dJ7_copyOfRange_39247_5 rfl (lv_at hl 0 rfl) ?_
  refine balen (B.length + 1) S X0 hP (at_B (j := 1) rfl) dJ7_copyOfRange_39247_6 ?_
  refine lv_icmp_eq (tgt := 17) hx hb dJ7_copyOfRange_39247_7 (by decide) (fun c_7 => absurd c_7 (cr_ne n hn)) (fun c_7 => ?_)
  refine lv_aload_n hx hb dJ7_copyOfRange_39247_10 rfl (lv_at hl 0 rfl) ?_
  refine lv_iload_n hx hb dJ7_copyOfRange_39247_11 rfl (lv_at hl 1 rfl) ?_
  refine lv_iload_n hx hb dJ7_copyOfRange_39247_12 rfl (lv_at hl 2 rfl) ?_
  refine bS (As := [.ref v, .int 0, .int (nI n)]) S X0 (b_J7_copyOfRangeByte_39247 l cs hF hZ B c0 c2 v n f hn hfit) kb_yJ7_copyOfRangeByte_39247 ml_RJ7_339 sm_yJ7_copyOfRangeByte_39247 hP hD hS hl.1 ⟨by decide, by decide⟩ rfl (by rfl) (Nat.le_of_ble_eq_true rfl) ⟨(by first | decide | (show _ ≤ 3; omega)), (by first | decide | (show _ ≤ 6 * 3; omega))⟩ dJ7_copyOfRange_39247_13 (fun g H locs hP hD hS => ?_)
  replace hP : va_P D vcl (B ++ [c0, (v, .inl (ct 7, 16, .inl f)), c2, ((g 0), .inl (ct 7, n, .inl (va_cpy f (fun _ => 0) 0 0 n)))]) H := hP
  replace hD : va_D (fr N0) (B ++ [c0, (v, .inl (ct 7, 16, .inl f)), c2, ((g 0), .inl (ct 7, n, .inl (va_cpy f (fun _ => 0) 0 0 n)))]) := hD
  refine eBa (a := (fun g => g 0)) (L := (fun g => B ++ [c0, (v, .inl (ct 7, 16, .inl f)), c2, ((g 0), .inl (ct 7, n, .inl (va_cpy f (fun _ => 0) 0 0 n)))])) g S hr (Or.inr ⟨_, rfl⟩) hlocks hP hD hS ?_ dJ7_copyOfRange_39247_16
  exact ⟨(by first | decide | (show _ ≤ 3; omega)), (by first | decide | (show _ ≤ 6 * 3; omega))⟩

theorem kb_yJ0_init_db425 : COB yJ0_init_db425 cJ0_init_db425 5 (Option.none : Option FieldType) 2 := ⟨in_RJ0, co_yJ0_init_db425, ⟨by decide +kernel, by decide +kernel, by decide +kernel⟩, by decide⟩
set_option maxHeartbeats 4000000 in
set_option maxRecDepth 100000 in
theorem b_J0_init_db425 (l : Launch) {D : va_G} {ct : Nat → ClassId} {N0 : Nat} {F : State → Prop} {ek : Nat → Nat} (cs : Nat → Nat) {dg : Nat} (hF : ∀ U, F U → FX ek cs N0 U) (hZ : ∀ U, F U → SBF dg N0 U) (B : va_W) (z : Nat) (q : Nat) (v : Nat) (n : Nat) (f : Nat → Int32) (hn : n < 16) (hfit : ∀ j, j < 16 → fits .byte (.int (f j)) = true) :
    MB l yJ0_init_db425 cJ0_init_db425 5 (Option.none : Option FieldType) 4 3 D ct N0 F [.ref z, .ref q, .null] (B ++ [(q, .inr (9, [.ref v, .int 0, .int 0, .int (nI n)])), (v, .inl (ct 7, 16, .inl f)), (z, .inr (10, [.null, .int 0, .int 0, .int 0]))]) (fun _ => none) (fun g => B ++ [(q, .inr (9, [.ref v, .int 0, .int 0, .int (nI n)])), (v, .inl (ct 7, 16, .inl f)), (z, .inr (10, [.ref (g 0), .int 0, .int 0, .int 0])), ((g 0), .inl (ct 7, n, .inl (va_cpy f (fun _ => 0) 0 0 n)))]) := by
  refine msB (own := RJ0) (by decide +kernel) rfl (Nat.le_of_ble_eq_true rfl) (fun p e s m args below meth c S hr hlocks hmn X0 hP hD hS ls hl => ?_)
  have hx := S.1
  have hb := S.2.1
  have FC := hF s X0.2.2.2.2.2
  have FZ := hZ s X0.2.2.2.2.2
  replace hl : lv_has ls 5 [(0, .ref z), (1, .ref q), (2, .null)] := hl
  refine lv_aload_n hx hb dJ0_init_db425_0 rfl (lv_at hl 0 rfl) ?_
  refine oI S ml_RJ0_1 hl.1 ⟨by decide, by decide⟩ dJ0_init_db425_1 ?_
  refine lv_aload_n hx hb dJ0_init_db425_4 rfl (lv_at hl 1 rfl) ?_
  refine bV (As := []) (C := RJ4) S X0 (b_J5_getValue_6d5f1 l cs hF hZ _ B.length q v n (at_B (j := 0) rfl)) kb_yJ5_getValue_6d5f1 ml_RJ0_552 im_yJ5_getValue_6d5f1 (S.2.2.2.2 _ sl_val) (va_recv (q0 := B.length) X0.1 hP (ci := 9) rfl (at_B (j := 0) rfl)) hP hD hS hl.1 ⟨by decide, by decide⟩ rfl (by rfl) (Nat.le_of_ble_eq_true rfl) ⟨(by first | decide | (show _ ≤ 3; omega)), (by first | decide | (show _ ≤ 6 * 3; omega))⟩ dJ0_init_db425_5 (fun _ H locs hP hD hS => ?_)
  refine lv_astore_n (lv' := [(3, .ref v), (0, .ref z), (1, .ref q), (2, .null)]) hx hb dJ0_init_db425_8 rfl hl (by decide) rfl (fun ls hl => ?_)
  refine lv_aload_n hx hb dJ0_init_db425_9 rfl (lv_at hl 2 rfl) ?_
  refine bU (As := []) (C := RJ4) (owner := RJ5) (x := yJ5_length_8abf5) S X0 (b_J4_length_8abf5 l cs hF hZ _ B.length q v n (at_B (j := 0) rfl)) kb_yJ4_length_8abf5 ⟨by decide +kernel, by decide +kernel, by decide +kernel⟩ ml_RJ0_549 sa_len im_yJ5_length_8abf5 co_yJ5_length_8abf5 im_yJ4_length_8abf5 sl_len (va_recv (q0 := B.length) X0.1 hP (ci := 9) rfl (at_B (j := 0) rfl)) hP hD hS hl.1 ⟨by decide, by decide⟩ rfl (by rfl) (Nat.le_of_ble_eq_true rfl) ⟨(by first | decide | (show _ ≤ 3; omega)), (by first | decide | (show _ ≤ 6 * 3; omega))⟩ dJ0_init_db425_10 (fun _ H locs hP hD hS => ?_)
  refine lv_istore (lv' := [(4, .int (nI n)), (3, .ref v), (0, .ref z), (1, .ref q), (2, .null)]) hx hb dJ0_init_db425_13 hl (by decide) rfl (fun ls hl => ?_)
  refine lv_aload_n hx hb dJ0_init_db425_15 rfl (lv_at hl 3 rfl) ?_
  refine bV (As := []) (C := RJ4) S X0 (b_J5_isLatin1_aae02 l cs hF hZ _ B.length q v n (at_B (j := 0) rfl)) kb_yJ5_isLatin1_aae02 ml_RJ0_1047 im_yJ5_isLatin1_aae02 (S.2.2.2.2 _ sl_lat) (va_recv (q0 := B.length) X0.1 hP (ci := 9) rfl (at_B (j := 0) rfl)) hP hD hS hl.1 ⟨by decide, by decide⟩ rfl (by rfl) (Nat.le_of_ble_eq_true rfl) ⟨(by first | decide | (show _ ≤ 3; omega)), (by first | decide | (show _ ≤ 6 * 3; omega))⟩ dJ0_init_db425_16 (fun _ H locs hP hD hS => ?_)
  refine lv_if_eq (tgt := 41) hx hb dJ0_init_db425_19 (by decide) (fun c_19 => absurd c_19 (by decide)) (fun c_19 => ?_)
  refine lv_aload_n hx hb dJ0_init_db425_22 rfl (lv_at hl 2 rfl) ?_
  refine lv_iconst (v := 0) hx hb dJ0_init_db425_23 (by decide) ?_
  refine pC (C := RJ0) (T := TJ0) (N := 4) (lw' := [(q, .inr (9, [.ref v, .int 0, .int 0, .int (nI n)])), (v, .inl (ct 7, 16, .inl f)), (z, .inr (10, [.null, .int 0, .int 0, .int 0]))]) 2 1 S X0 hP hD hS hmn tyJ0 tyJ0_ok nmJ0 rfl inJ0 fl_RJ0_15 rfl rfl (by decide) rfl rfl rfl rfl (Nat.le_of_ble_eq_true rfl) dJ0_init_db425_24 (fun H locs hP hD hS => ?_)
  refine lv_aload_n hx hb dJ0_init_db425_27 rfl (lv_at hl 2 rfl) ?_
  refine lv_aload_n hx hb dJ0_init_db425_28 rfl (lv_at hl 1 rfl) ?_
  refine lv_iconst (v := 0) hx hb dJ0_init_db425_29 (by decide) ?_
  refine lv_iload hx hb dJ0_init_db425_30 (lv_at hl 0 rfl) ?_
  refine bS (As := [.ref v, .int 0, .int (nI n)]) S X0 (b_J7_copyOfRange_39247 l cs hF hZ B _ _ v n f hn hfit) kb_yJ7_copyOfRange_39247 ml_RJ0_54 sm_yJ7_copyOfRange_39247 hP hD hS hl.1 ⟨by decide, by decide⟩ rfl (by rfl) (Nat.le_of_ble_eq_true rfl) ⟨(by first | decide | (show _ ≤ 3; omega)), (by first | decide | (show _ ≤ 6 * 3; omega))⟩ dJ0_init_db425_32 (fun g H locs hP hD hS => ?_)
  replace hP : va_P D vcl (B ++ [(q, .inr (9, [.ref v, .int 0, .int 0, .int (nI n)])), (v, .inl (ct 7, 16, .inl f)), (z, .inr (10, [.null, .int 0, .int 0, .int 0])), ((g 0), .inl (ct 7, n, .inl (va_cpy f (fun _ => 0) 0 0 n)))]) H := hP
  replace hD : va_D (fr N0) (B ++ [(q, .inr (9, [.ref v, .int 0, .int 0, .int (nI n)])), (v, .inl (ct 7, 16, .inl f)), (z, .inr (10, [.null, .int 0, .int 0, .int 0])), ((g 0), .inl (ct 7, n, .inl (va_cpy f (fun _ => 0) 0 0 n)))]) := hD
  refine pC (C := RJ0) (T := TJ0) (N := 4) (lw' := [(q, .inr (9, [.ref v, .int 0, .int 0, .int (nI n)])), (v, .inl (ct 7, 16, .inl f)), (z, .inr (10, [.ref (g 0), .int 0, .int 0, .int 0])), ((g 0), .inl (ct 7, n, .inl (va_cpy f (fun _ => 0) 0 0 n)))]) 2 0 S X0 hP hD hS hmn tyJ0 tyJ0_ok nmJ0 rfl inJ0 fl_RJ0_9 rfl rfl (by decide) rfl rfl rfl rfl (Nat.le_of_ble_eq_true rfl) dJ0_init_db425_35 (fun H locs hP hD hS => ?_)
  refine lv_goto (tgt := 97) hx hb dJ0_init_db425_38 (by decide) ?_
  refine eBv (L := (fun g => B ++ [(q, .inr (9, [.ref v, .int 0, .int 0, .int (nI n)])), (v, .inl (ct 7, 16, .inl f)), (z, .inr (10, [.ref (g 0), .int 0, .int 0, .int 0])), ((g 0), .inl (ct 7, n, .inl (va_cpy f (fun _ => 0) 0 0 n)))])) g S hr hlocks hP hD hS ?_ dJ0_init_db425_97
  exact ⟨(by first | decide | (show _ ≤ 3; omega)), (by first | decide | (show _ ≤ 6 * 3; omega))⟩

theorem kb_yJ0_init_81219 : COB yJ0_init_81219 cJ0_init_81219 2 (Option.none : Option FieldType) 1 := ⟨in_RJ0, co_yJ0_init_81219, ⟨by decide +kernel, by decide +kernel, by decide +kernel⟩, by decide⟩
set_option maxHeartbeats 4000000 in
set_option maxRecDepth 100000 in
theorem b_J0_init_81219 (l : Launch) {D : va_G} {ct : Nat → ClassId} {N0 : Nat} {F : State → Prop} {ek : Nat → Nat} (cs : Nat → Nat) {dg : Nat} (hF : ∀ U, F U → FX ek cs N0 U) (hZ : ∀ U, F U → SBF dg N0 U) (B : va_W) (z : Nat) (q : Nat) (v : Nat) (n : Nat) (f : Nat → Int32) (hn : n < 16) (hfit : ∀ j, j < 16 → fits .byte (.int (f j)) = true) :
    MB l yJ0_init_81219 cJ0_init_81219 2 (Option.none : Option FieldType) 5 3 D ct N0 F [.ref z, .ref q] (B ++ [(q, .inr (9, [.ref v, .int 0, .int 0, .int (nI n)])), (v, .inl (ct 7, 16, .inl f)), (z, .inr (10, [.null, .int 0, .int 0, .int 0]))]) (fun _ => none) (fun g => B ++ [(q, .inr (9, [.ref v, .int 0, .int 0, .int (nI n)])), (v, .inl (ct 7, 16, .inl f)), (z, .inr (10, [.ref (g 0), .int 0, .int 0, .int 0])), ((g 0), .inl (ct 7, n, .inl (va_cpy f (fun _ => 0) 0 0 n)))]) := by
  refine msB (own := RJ0) (by decide +kernel) rfl (Nat.le_of_ble_eq_true rfl) (fun p e s m args below meth c S hr hlocks hmn X0 hP hD hS ls hl => ?_)
  have hx := S.1
  have hb := S.2.1
  have FC := hF s X0.2.2.2.2.2
  have FZ := hZ s X0.2.2.2.2.2
  replace hl : lv_has ls 2 [(0, .ref z), (1, .ref q)] := hl
  refine lv_aload_n hx hb dJ0_init_81219_0 rfl (lv_at hl 0 rfl) ?_
  refine lv_aload_n hx hb dJ0_init_81219_1 rfl (lv_at hl 1 rfl) ?_
  refine lv_null hx hb dJ0_init_81219_2 ?_
  refine bI (As := [.ref q, .null]) S X0 (b_J0_init_db425 l cs hF hZ B z q v n f hn hfit) kb_yJ0_init_db425 rfl ml_RJ0_489 im_yJ0_init_db425 hP hD hS hl.1 ⟨by decide, by decide⟩ rfl (by rfl) (Nat.le_of_ble_eq_true rfl) ⟨(by first | decide | (show _ ≤ 3; omega)), (by first | decide | (show _ ≤ 6 * 3; omega))⟩ dJ0_init_81219_3 (fun g H locs hP hD hS => ?_)
  replace hP : va_P D vcl (B ++ [(q, .inr (9, [.ref v, .int 0, .int 0, .int (nI n)])), (v, .inl (ct 7, 16, .inl f)), (z, .inr (10, [.ref (g 0), .int 0, .int 0, .int 0])), ((g 0), .inl (ct 7, n, .inl (va_cpy f (fun _ => 0) 0 0 n)))]) H := hP
  replace hD : va_D (fr N0) (B ++ [(q, .inr (9, [.ref v, .int 0, .int 0, .int (nI n)])), (v, .inl (ct 7, 16, .inl f)), (z, .inr (10, [.ref (g 0), .int 0, .int 0, .int 0])), ((g 0), .inl (ct 7, n, .inl (va_cpy f (fun _ => 0) 0 0 n)))]) := hD
  refine eBv (L := (fun g => B ++ [(q, .inr (9, [.ref v, .int 0, .int 0, .int (nI n)])), (v, .inl (ct 7, 16, .inl f)), (z, .inr (10, [.ref (g 0), .int 0, .int 0, .int 0])), ((g 0), .inl (ct 7, n, .inl (va_cpy f (fun _ => 0) 0 0 n)))])) g S hr hlocks hP hD hS ?_ dJ0_init_81219_6
  exact ⟨(by first | decide | (show _ ≤ 3; omega)), (by first | decide | (show _ ≤ 6 * 3; omega))⟩

theorem kb_yJ4_toString_0e30d : COB yJ4_toString_0e30d cJ4_toString_0e30d 1 (Option.some (FieldType.object RJ0)) 0 := ⟨in_RJ4, co_yJ4_toString_0e30d, ⟨by decide +kernel, by decide +kernel, by decide +kernel⟩, by decide⟩
set_option maxHeartbeats 4000000 in
set_option maxRecDepth 100000 in
theorem b_J4_toString_0e30d (l : Launch) {D : va_G} {ct : Nat → ClassId} {N0 : Nat} {F : State → Prop} {ek : Nat → Nat} (cs : Nat → Nat) {dg : Nat} (hF : ∀ U, F U → FX ek cs N0 U) (hZ : ∀ U, F U → SBF dg N0 U) (B : va_W) (q : Nat) (v : Nat) (n : Nat) (f : Nat → Int32) (hn : n < 16) (hfit : ∀ j, j < 16 → fits .byte (.int (f j)) = true) :
    MB l yJ4_toString_0e30d cJ4_toString_0e30d 1 (Option.some (FieldType.object RJ0)) 6 4 D ct N0 F [.ref q] (B ++ [(q, .inr (9, [.ref v, .int 0, .int 0, .int (nI n)])), (v, .inl (ct 7, 16, .inl f))]) (fun g => some (.ref (g 1))) (fun g => B ++ [(q, .inr (9, [.ref v, .int 0, .int 0, .int (nI n)])), (v, .inl (ct 7, 16, .inl f)), ((g 1), .inr (10, [.ref (g 0), .int 0, .int 0, .int 0])), ((g 0), .inl (ct 7, n, .inl (va_cpy f (fun _ => 0) 0 0 n)))]) := by
  refine msB (own := RJ4) (by decide +kernel) rfl (Nat.le_of_ble_eq_true rfl) (fun p e s m args below meth c S hr hlocks hmn X0 hP hD hS ls hl => ?_)
  have hx := S.1
  have hb := S.2.1
  have FC := hF s X0.2.2.2.2.2
  have FZ := hZ s X0.2.2.2.2.2
  replace hl : lv_has ls 1 [(0, .ref q)] := hl
  refine nO (C := RJ0) (T := TJ0) (ci := 10) (ty := tyJ0) (fs := [.null, .int 0, .int 0, .int 0]) S X0 hP hD hS inJ0 tyJ0_ok cl_RJ4_18 ib_RJ0 in_RJ0 rfl (by decide +kernel) ⟨(by first | decide | (show _ ≤ 4; omega)), (by first | decide | (show _ ≤ 6 * 4; omega))⟩ dJ4_toString_0e30d_0 (fun z_1 H hP hD hS => ?_)
  rw [List.append_assoc] at hP hD
  replace hP : va_P D vcl (B ++ [(q, .inr (9, [.ref v, .int 0, .int 0, .int (nI n)])), (v, .inl (ct 7, 16, .inl f)), (z_1, .inr (10, [.null, .int 0, .int 0, .int 0]))]) H := hP
  replace hD : va_D (fr N0) (B ++ [(q, .inr (9, [.ref v, .int 0, .int 0, .int (nI n)])), (v, .inl (ct 7, 16, .inl f)), (z_1, .inr (10, [.null, .int 0, .int 0, .int 0]))]) := hD
  refine lv_dup hx hb dJ4_toString_0e30d_3 rfl ?_
  refine lv_aload_n hx hb dJ4_toString_0e30d_4 rfl (lv_at hl 0 rfl) ?_
  refine bI (As := [.ref q]) S X0 (b_J0_init_81219 l cs hF hZ B z_1 q v n f hn hfit) kb_yJ0_init_81219 rfl ml_RJ4_137 im_yJ0_init_81219 hP hD hS hl.1 ⟨by decide, by decide⟩ rfl (by rfl) (Nat.le_of_ble_eq_true rfl) ⟨(by first | decide | (show _ ≤ 4; omega)), (by first | decide | (show _ ≤ 6 * 4; omega))⟩ dJ4_toString_0e30d_5 (fun g H locs hP hD hS => ?_)
  replace hP : va_P D vcl (B ++ [(q, .inr (9, [.ref v, .int 0, .int 0, .int (nI n)])), (v, .inl (ct 7, 16, .inl f)), (z_1, .inr (10, [.ref (g 0), .int 0, .int 0, .int 0])), ((g 0), .inl (ct 7, n, .inl (va_cpy f (fun _ => 0) 0 0 n)))]) H := hP
  replace hD : va_D (fr N0) (B ++ [(q, .inr (9, [.ref v, .int 0, .int 0, .int (nI n)])), (v, .inl (ct 7, 16, .inl f)), (z_1, .inr (10, [.ref (g 0), .int 0, .int 0, .int 0])), ((g 0), .inl (ct 7, n, .inl (va_cpy f (fun _ => 0) 0 0 n)))]) := hD
  refine eBa (a := (fun g => g 1)) (L := (fun g => B ++ [(q, .inr (9, [.ref v, .int 0, .int 0, .int (nI n)])), (v, .inl (ct 7, 16, .inl f)), ((g 1), .inr (10, [.ref (g 0), .int 0, .int 0, .int 0])), ((g 0), .inl (ct 7, n, .inl (va_cpy f (fun _ => 0) 0 0 n)))])) (fun j => if j = 0 then g 0 else z_1) S hr (Or.inl ⟨_, rfl⟩) hlocks hP hD hS ?_ dJ4_toString_0e30d_8
  exact ⟨(by first | decide | (show _ ≤ 4; omega)), (by first | decide | (show _ ≤ 6 * 4; omega))⟩

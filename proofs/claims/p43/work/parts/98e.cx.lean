/-! the class's own constructor (laid by wip/p43/spec_init2.py) -/
theorem ck_X10 : CKI yX10_init cX10_init 1 := ⟨im_yX10_init, in_RX10, co_yX10_init, ⟨by decide +kernel, by decide +kernel, by decide +kernel⟩, by decide, rfl⟩
set_option maxHeartbeats 1000000 in
set_option maxRecDepth 100000 in
theorem c_X10_init (l : Launch) {D : va_G} {ct : Nat → ClassId} {N0 : Nat} {F : State → Prop} {ek : Nat → Nat} (cs : Nat → Nat) (hF : ∀ U, F U → FX ek cs N0 U) (B : va_W) (q : Nat) : MC l yX10_init cX10_init 1 4 275 1808 D ct N0 F B q (.inr (8, [.null, .null, .null, .null, .null, .null, .null, .null, .null, .int 0, .int 0, .int 0, .int 0, .int 0])) (XL ct ek) := by
  refine msC (own := RX10) (by decide) rfl rfl (Nat.le_of_ble_eq_true rfl) (fun p e s m args below meth c S hr hlocks hmn X0 hP hD hS ls hl => ?_)
  have hx := S.1
  have hb := S.2.1
  refine lv_aload_n hx hb dX10_init_0 rfl (lv_at hl 0 rfl) ?_
  refine oI S ml_RX10_1 hl.1 ⟨by decide, by decide⟩ dX10_init_1 ?_
  refine lv_aload_n hx hb dX10_init_4 rfl (lv_at hl 0 rfl) ?_
  refine nO (C := RX5) (T := TX5) (ci := 4) (ty := tyX5) (fs := [.null, .null, .int 0, .int 0, .int 0]) S X0 hP hD hS inX5 tyX5_ok cl_RX10_7 ib_RX5 in_RX5 rfl (by decide +kernel) ⟨by decide, by decide⟩ dX10_init_5 (fun q1 H hP hD hS => ?_)
  refine lv_dup hx hb dX10_init_8 rfl ?_
  refine iN S X0 (c_X5_init l _ q1) ck_X5 nw_RX10_9 hP hD hS hl.1 ⟨by decide, by decide⟩ (Nat.le_of_ble_eq_true rfl) ⟨by decide, by decide⟩ dX10_init_9 (fun f1 H locs hf1 hP hD hS => ?_)
  rw [List.append_assoc] at hP hD
  refine pC 0 0 S X0 hP hD hS hmn tyX10 tyX10_ok nmX10 (ci := 8) rfl inX10 fl_RX10_10 (lw' := [(q, .inr (8, [.ref q1, .null, .null, .null, .null, .null, .null, .null, .null, .int 0, .int 0, .int 0, .int 0, .int 0]))] ++ HL ct f1) rfl rfl (by decide) rfl rfl rfl rfl (Nat.le_of_ble_eq_true rfl) dX10_init_12 (fun H locs hP hD hS => ?_)
  refine lv_aload_n hx hb dX10_init_15 rfl (lv_at hl 0 rfl) ?_
  refine nO (C := RX5) (T := TX5) (ci := 4) (ty := tyX5) (fs := [.null, .null, .int 0, .int 0, .int 0]) S X0 hP hD hS inX5 tyX5_ok cl_RX10_7 ib_RX5 in_RX5 rfl (by decide +kernel) ⟨by decide, by decide⟩ dX10_init_16 (fun q2 H hP hD hS => ?_)
  refine lv_dup hx hb dX10_init_19 rfl ?_
  refine iN S X0 (c_X5_init l _ q2) ck_X5 nw_RX10_9 hP hD hS hl.1 ⟨by decide, by decide⟩ (Nat.le_of_ble_eq_true rfl) ⟨by decide, by decide⟩ dX10_init_20 (fun f2 H locs hf2 hP hD hS => ?_)
  rw [List.append_assoc] at hP hD
  refine pC 0 1 S X0 hP hD hS hmn tyX10 tyX10_ok nmX10 (ci := 8) rfl inX10 fl_RX10_16 (lw' := [(q, .inr (8, [.ref q1, .ref q2, .null, .null, .null, .null, .null, .null, .null, .int 0, .int 0, .int 0, .int 0, .int 0]))] ++ HL ct f1 ++ HL ct f2) rfl rfl (by decide) rfl rfl rfl rfl (Nat.le_of_ble_eq_true rfl) dX10_init_23 (fun H locs hP hD hS => ?_)
  refine lv_aload_n hx hb dX10_init_26 rfl (lv_at hl 0 rfl) ?_
  refine nO (C := RX5) (T := TX5) (ci := 4) (ty := tyX5) (fs := [.null, .null, .int 0, .int 0, .int 0]) S X0 hP hD hS inX5 tyX5_ok cl_RX10_7 ib_RX5 in_RX5 rfl (by decide +kernel) ⟨by decide, by decide⟩ dX10_init_27 (fun q3 H hP hD hS => ?_)
  refine lv_dup hx hb dX10_init_30 rfl ?_
  refine iN S X0 (c_X5_init l _ q3) ck_X5 nw_RX10_9 hP hD hS hl.1 ⟨by decide, by decide⟩ (Nat.le_of_ble_eq_true rfl) ⟨by decide, by decide⟩ dX10_init_31 (fun f3 H locs hf3 hP hD hS => ?_)
  rw [List.append_assoc] at hP hD
  refine pC 0 2 S X0 hP hD hS hmn tyX10 tyX10_ok nmX10 (ci := 8) rfl inX10 fl_RX10_19 (lw' := [(q, .inr (8, [.ref q1, .ref q2, .ref q3, .null, .null, .null, .null, .null, .null, .int 0, .int 0, .int 0, .int 0, .int 0]))] ++ HL ct f1 ++ HL ct f2 ++ HL ct f3) rfl rfl (by decide) rfl rfl rfl rfl (Nat.le_of_ble_eq_true rfl) dX10_init_34 (fun H locs hP hD hS => ?_)
  refine lv_aload_n hx hb dX10_init_37 rfl (lv_at hl 0 rfl) ?_
  refine nO (C := RX8) (T := TX8) (ci := 6) (ty := tyX8) (fs := [.null, .null, .null, .null, .null, .null, .null, .int 0]) S X0 hP hD hS inX8 tyX8_ok cl_RX10_22 ib_RX8 in_RX8 rfl (by decide +kernel) ⟨by decide, by decide⟩ dX10_init_38 (fun q4 H hP hD hS => ?_)
  refine lv_dup hx hb dX10_init_41 rfl ?_
  refine iN S X0 (c_X8_init l _ q4) ck_X8 nw_RX10_24 hP hD hS hl.1 ⟨by decide, by decide⟩ (Nat.le_of_ble_eq_true rfl) ⟨by decide, by decide⟩ dX10_init_42 (fun f4 H locs hf4 hP hD hS => ?_)
  rw [List.append_assoc] at hP hD
  refine pC 0 3 S X0 hP hD hS hmn tyX10 tyX10_ok nmX10 (ci := 8) rfl inX10 fl_RX10_25 (lw' := [(q, .inr (8, [.ref q1, .ref q2, .ref q3, .ref q4, .null, .null, .null, .null, .null, .int 0, .int 0, .int 0, .int 0, .int 0]))] ++ HL ct f1 ++ HL ct f2 ++ HL ct f3 ++ PL ct f4) rfl rfl (by decide) rfl rfl rfl rfl (Nat.le_of_ble_eq_true rfl) dX10_init_45 (fun H locs hP hD hS => ?_)
  refine lv_aload_n hx hb dX10_init_48 rfl (lv_at hl 0 rfl) ?_
  refine nO (C := RX2) (T := TX2) (ci := 1) (ty := tyX2) (fs := [.null]) S X0 hP hD hS inX2 tyX2_ok cl_RX10_29 ib_RX2 in_RX2 rfl (by decide +kernel) ⟨by decide, by decide⟩ dX10_init_49 (fun q5 H hP hD hS => ?_)
  refine lv_dup hx hb dX10_init_52 rfl ?_
  refine iN S X0 (c_X2_init l _ q5) ck_X2 nw_RX10_31 hP hD hS hl.1 ⟨by decide, by decide⟩ (Nat.le_of_ble_eq_true rfl) ⟨by decide, by decide⟩ dX10_init_53 (fun f5 H locs hf5 hP hD hS => ?_)
  rw [List.append_assoc] at hP hD
  refine pC 0 4 S X0 hP hD hS hmn tyX10 tyX10_ok nmX10 (ci := 8) rfl inX10 fl_RX10_32 (lw' := [(q, .inr (8, [.ref q1, .ref q2, .ref q3, .ref q4, .ref q5, .null, .null, .null, .null, .int 0, .int 0, .int 0, .int 0, .int 0]))] ++ HL ct f1 ++ HL ct f2 ++ HL ct f3 ++ PL ct f4 ++ CL ct f5) rfl rfl (by decide) rfl rfl rfl rfl (Nat.le_of_ble_eq_true rfl) dX10_init_56 (fun H locs hP hD hS => ?_)
  refine lv_aload_n hx hb dX10_init_59 rfl (lv_at hl 0 rfl) ?_
  refine nO (C := RX4) (T := TX4) (ci := 3) (ty := tyX4) (fs := [.null, .int 0, .int 0]) S X0 hP hD hS inX4 tyX4_ok cl_RX10_36 ib_RX4 in_RX4 rfl (by decide +kernel) ⟨by decide, by decide⟩ dX10_init_60 (fun q6 H hP hD hS => ?_)
  refine lv_dup hx hb dX10_init_63 rfl ?_
  refine iP S X0 (c_X4_init l _ q6) ck_X4 ml_RX10_38 hP hD hS hl.1 ⟨by decide, by decide⟩ (Nat.le_of_ble_eq_true rfl) ⟨by decide, by decide⟩ dX10_init_64 (fun f6 H locs hf6 hP hD hS => ?_)
  rw [List.append_assoc] at hP hD
  refine pC 0 5 S X0 hP hD hS hmn tyX10 tyX10_ok nmX10 (ci := 8) rfl inX10 fl_RX10_39 (lw' := [(q, .inr (8, [.ref q1, .ref q2, .ref q3, .ref q4, .ref q5, .ref q6, .null, .null, .null, .int 0, .int 0, .int 0, .int 0, .int 0]))] ++ HL ct f1 ++ HL ct f2 ++ HL ct f3 ++ PL ct f4 ++ CL ct f5 ++ HiL ct f6) rfl rfl (by decide) rfl rfl rfl rfl (Nat.le_of_ble_eq_true rfl) dX10_init_67 (fun H locs hP hD hS => ?_)
  refine lv_aload_n hx hb dX10_init_70 rfl (lv_at hl 0 rfl) ?_
  refine nO (C := RX9) (T := TX9) (ci := 7) (ty := tyX9) (fs := [.null, .null, .null, .int 0, .int 0, .int 0, .int 0, .int 0]) S X0 hP hD hS inX9 tyX9_ok cl_RX10_43 ib_RX9 in_RX9 rfl (by decide +kernel) ⟨by decide, by decide⟩ dX10_init_71 (fun q7 H hP hD hS => ?_)
  refine lv_dup hx hb dX10_init_74 rfl ?_
  refine iP S X0 (c_X9_init l cs hF _ q7) ck_X9 ml_RX10_45 hP hD hS hl.1 ⟨by decide, by decide⟩ (Nat.le_of_ble_eq_true rfl) ⟨by decide, by decide⟩ dX10_init_75 (fun f7 H locs hf7 hP hD hS => ?_)
  rw [List.append_assoc] at hP hD
  refine pC 0 6 S X0 hP hD hS hmn tyX10 tyX10_ok nmX10 (ci := 8) rfl inX10 fl_RX10_46 (lw' := [(q, .inr (8, [.ref q1, .ref q2, .ref q3, .ref q4, .ref q5, .ref q6, .ref q7, .null, .null, .int 0, .int 0, .int 0, .int 0, .int 0]))] ++ HL ct f1 ++ HL ct f2 ++ HL ct f3 ++ PL ct f4 ++ CL ct f5 ++ HiL ct f6 ++ TL ct ek f7) rfl rfl (by decide) rfl rfl rfl rfl (Nat.le_of_ble_eq_true rfl) dX10_init_78 (fun H locs hP hD hS => ?_)
  refine lv_aload_n hx hb dX10_init_81 rfl (lv_at hl 0 rfl) ?_
  refine nO (C := RX3) (T := TX3) (ci := 2) (ty := tyX3) (fs := [.null, .int 0, .int 0, .int 0, .int 0, .int 0, .int 0]) S X0 hP hD hS inX3 tyX3_ok cl_RX10_50 ib_RX3 in_RX3 rfl (by decide +kernel) ⟨by decide, by decide⟩ dX10_init_82 (fun q8 H hP hD hS => ?_)
  refine lv_dup hx hb dX10_init_85 rfl ?_
  refine iN S X0 (c_X3_init l cs hF _ q8) ck_X3 nw_RX10_52 hP hD hS hl.1 ⟨by decide, by decide⟩ (Nat.le_of_ble_eq_true rfl) ⟨by decide, by decide⟩ dX10_init_86 (fun f8 H locs hf8 hP hD hS => ?_)
  rw [List.append_assoc] at hP hD
  refine pC 0 7 S X0 hP hD hS hmn tyX10 tyX10_ok nmX10 (ci := 8) rfl inX10 fl_RX10_53 (lw' := [(q, .inr (8, [.ref q1, .ref q2, .ref q3, .ref q4, .ref q5, .ref q6, .ref q7, .ref q8, .null, .int 0, .int 0, .int 0, .int 0, .int 0]))] ++ HL ct f1 ++ HL ct f2 ++ HL ct f3 ++ PL ct f4 ++ CL ct f5 ++ HiL ct f6 ++ TL ct ek f7 ++ KL ek f8) rfl rfl (by decide) rfl rfl rfl rfl (Nat.le_of_ble_eq_true rfl) dX10_init_89 (fun H locs hP hD hS => ?_)
  refine lv_aload_n hx hb dX10_init_92 rfl (lv_at hl 0 rfl) ?_
  refine nO (C := RX7) (T := TX7) (ci := 5) (ty := tyX7) (fs := [.null, .int 0]) S X0 hP hD hS inX7 tyX7_ok cl_RX10_57 ib_RX7 in_RX7 rfl (by decide +kernel) ⟨by decide, by decide⟩ dX10_init_93 (fun q9 H hP hD hS => ?_)
  refine lv_dup hx hb dX10_init_96 rfl ?_
  refine iN S X0 (c_X7_init l _ q9) ck_X7 nw_RX10_59 hP hD hS hl.1 ⟨by decide, by decide⟩ (Nat.le_of_ble_eq_true rfl) ⟨by decide, by decide⟩ dX10_init_97 (fun f9 H locs hf9 hP hD hS => ?_)
  rw [List.append_assoc] at hP hD
  refine pC 0 8 S X0 hP hD hS hmn tyX10 tyX10_ok nmX10 (ci := 8) rfl inX10 fl_RX10_60 (lw' := [(q, .inr (8, [.ref q1, .ref q2, .ref q3, .ref q4, .ref q5, .ref q6, .ref q7, .ref q8, .ref q9, .int 0, .int 0, .int 0, .int 0, .int 0]))] ++ HL ct f1 ++ HL ct f2 ++ HL ct f3 ++ PL ct f4 ++ CL ct f5 ++ HiL ct f6 ++ TL ct ek f7 ++ KL ek f8 ++ Ln9 ct f9) rfl rfl (by decide) rfl rfl rfl rfl (Nat.le_of_ble_eq_true rfl) dX10_init_100 (fun H locs hP hD hS => ?_)
  refine lv_aload_n hx hb dX10_init_103 rfl (lv_at hl 0 rfl) ?_
  refine lv_iconst (v := -1) hx hb dX10_init_104 (by decide) ?_
  refine pC 0 10 S X0 hP hD hS hmn tyX10 tyX10_ok nmX10 (ci := 8) rfl inX10 fl_RX10_64 (lw' := [(q, .inr (8, [.ref q1, .ref q2, .ref q3, .ref q4, .ref q5, .ref q6, .ref q7, .ref q8, .ref q9, .int 0, .int (-1), .int 0, .int 0, .int 0]))] ++ HL ct f1 ++ HL ct f2 ++ HL ct f3 ++ PL ct f4 ++ CL ct f5 ++ HiL ct f6 ++ TL ct ek f7 ++ KL ek f8 ++ Ln9 ct f9) rfl rfl (by decide) rfl rfl rfl rfl (Nat.le_of_ble_eq_true rfl) dX10_init_105 (fun H locs hP hD hS => ?_)
  subst hf1 hf2 hf3 hf4 hf5 hf6 hf7 hf8 hf9
  replace hP : va_P D vcl (B ++ XL ct ek (x9 q f1 f2 f3 f4 f5 f6 f7 f8 f9)) H := by rw [← XL_e]; exact hP
  replace hD : va_D (fr N0) (B ++ XL ct ek (x9 q f1 f2 f3 f4 f5 f6 f7 f8 f9)) := by rw [← XL_e]; exact hD
  exact eC S hr hlocks hP hD hS rfl ⟨by decide, by decide⟩ dX10_init_108

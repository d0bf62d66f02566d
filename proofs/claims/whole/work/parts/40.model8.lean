/-! the reference: its text (laid by wip/whole/spec_model8.py) -/
theorem ok_yX11_takes : COK RX11 yX11_takes cX11_takes 2 (some .boolean) 1 := ⟨im_yX11_takes, se_RX11_yX11_takes, in_RX11, co_yX11_takes, ⟨rfl, by decide +kernel, by decide +kernel, by decide +kernel⟩, by decide⟩
set_option maxHeartbeats 1000000 in
set_option maxRecDepth 100000 in
theorem c_X11_takes (l : Launch) {D : va_G} {ct : Nat → ClassId} {ek ad : Nat → Nat} {N0 : Nat} {X : va_W} {F : State → Prop} (σ : Mem) (ch : Int32) (a : Nat) (ha : σ 276 12 = nI a) (L : Nat) (hL : σ 276 11 = nI L) (haL : a ≤ L) (hL6 : L ≤ 60) : MI l yX11_takes cX11_takes 2 (some .boolean) 0 D ct ek ad N0 X F [.ref (ad 276), .int ch] σ (fun r τ => r = nxV (σ 284) L a ch ∧ τ = sg σ 276 12 (nI (nxE (σ 284) L a ch))) := by
  refine ms0 (own := RX11) (by decide) rfl (Nat.le_of_ble_eq_true rfl) (fun p e s m args below meth c S hr hlocks hnm G hP hS ls hl => ?_)
  have hx := S.1
  have hb := S.2.1
  replace hl : lv_has ls 2 [(0, .ref (ad 276)), (1, .int ch)] := hl
  have hn8 : ¬ nI a = nI L → ¬ nI L ≤ nI a := fun h => nI_ge (by have : a ≠ L := fun z => h (by rw [z]); omega) (by omega)
  refine lv_aload_n hx hb dX11_takes_0 rfl (lv_at hl 0 rfl) ?_
  refine gf S G hP 276 12 (by decide) oM rfl inX11 (by decide) fl_RX11_206 rfl rfl dX11_takes_1 ?_
  refine lv_tope (y := nI a) ha ?_
  refine lv_aload_n hx hb dX11_takes_4 rfl (lv_at hl 0 rfl) ?_
  refine gf S G hP 276 11 (by decide) oM rfl inX11 (by decide) fl_RX11_203 rfl rfl dX11_takes_5 ?_
  refine lv_tope (y := nI L) hL ?_
  refine lv_icmp_eq (tgt := 24) hx hb dX11_takes_8 (by decide) (fun c_8 => ?_) (fun c_8 => ?_)
  · refine lv_iconst (v := 0) hx hb dX11_takes_24 (by decide) ?_
    exact eZ S hr hlocks hP hS (by decide) dX11_takes_25 (by have h := nx_a (T := σ 284) (c := ch) (show nI L ≤ nI a by rw [c_8]; exact Int32.le_refl _); rw [h, nx_e0 h, sg_id ha]; exact ⟨rfl, rfl⟩)
  · have hlt : a < L := by have : a ≠ L := fun z => c_8 (by rw [z]); omega
    refine lv_aload_n hx hb dX11_takes_11 rfl (lv_at hl 0 rfl) ?_
    refine gf S G hP 276 10 (by decide) oM rfl inX11 (by decide) fl_RX11_32 rfl rfl dX11_takes_12 ?_
    refine lv_aload_n hx hb dX11_takes_15 rfl (lv_at hl 0 rfl) ?_
    refine gf S G hP 276 12 (by decide) oM rfl inX11 (by decide) fl_RX11_206 rfl rfl dX11_takes_16 ?_
    refine lv_tope (y := nI a) ha ?_
    refine cld S G hP 284 a (by decide) (aM284 _) rfl (by omega) (by decide) dX11_takes_19 ?_
    refine lv_iload_n hx hb dX11_takes_20 rfl (lv_at hl 1 rfl) ?_
    refine lv_icmp_eq (tgt := 26) hx hb dX11_takes_21 (by decide) (fun c_21 => ?_) (fun c_21 => ?_)
    · refine lv_aload_n hx hb dX11_takes_26 rfl (lv_at hl 0 rfl) ?_
      refine lv_dup hx hb dX11_takes_27 rfl ?_
      refine gf S G hP 276 12 (by decide) oM rfl inX11 (by decide) fl_RX11_206 rfl rfl dX11_takes_28 ?_
      refine lv_tope (y := nI a) ha ?_
      refine lv_iconst (v := 1) hx hb dX11_takes_31 (by decide) ?_
      refine nadd hx hb a 1 dX11_takes_32 rfl (by decide) ?_
      refine pf S G hP hS 276 12 (x := nI (a + 1)) tyX11 tyX11_ok nmX11 (by decide) oM rfl inX11 (by decide) fl_RX11_206 rfl rfl rfl rfl (Nat.le_of_ble_eq_true rfl) oM dX11_takes_33 (fun H locs hP hS => ?_)
      refine lv_iconst (v := 1) hx hb dX11_takes_36 (by decide) ?_
      exact eZ S hr hlocks hP hS (by decide) dX11_takes_37 (by have h := nx_c (T := σ 284) (hn8 c_8) c_21; rw [h, nx_e1 (by rw [h]; decide)]; exact ⟨rfl, rfl⟩)
    · refine lv_iconst (v := 0) hx hb dX11_takes_24 (by decide) ?_
      exact eZ S hr hlocks hP hS (by decide) dX11_takes_25 (by have h := nx_b (T := σ 284) (c := ch) (hn8 c_8) c_21; rw [h, nx_e0 h, sg_id ha]; exact ⟨rfl, rfl⟩)

theorem ok_yX11_digits : COK RX11 yX11_digits cX11_digits 4 (some .boolean) 2 := ⟨im_yX11_digits, se_RX11_yX11_digits, in_RX11, co_yX11_digits, ⟨rfl, by decide +kernel, by decide +kernel, by decide +kernel⟩, by decide⟩
set_option maxHeartbeats 1000000 in
set_option maxRecDepth 100000 in
theorem c_X11_digits (l : Launch) {D : va_G} {ct : Nat → ClassId} {ek ad : Nat → Nat} {N0 : Nat} {X : va_W} {F : State → Prop} (σ : Mem) (i : Nat) (hi : i < 3) (mm : Nat) (hm2 : mm ≤ 2) (a : Nat) (ha : σ 276 12 = nI a) (L : Nat) (hL : σ 276 11 = nI L) (haL : a ≤ L) (hL6 : L ≤ 60) : MI l yX11_digits cX11_digits 4 (some .boolean) 1 D ct ek ad N0 X F [.ref (ad 276), .int (nI i), .int (nI mm)] σ (fun r τ => r = dgR (σ 284) L a mm ∧ τ = sg (sg σ 285 i (dgV (σ 284) a (dgs (σ 284) L a mm))) 276 12 (nI (a + dgs (σ 284) L a mm))) := by
  refine ms0 (own := RX11) (by decide) rfl (Nat.le_of_ble_eq_true rfl) (fun p e s m args below meth c S hr hlocks hnm G hP hS ls hl => ?_)
  have hx := S.1
  have hb := S.2.1
  replace hl : lv_has ls 4 [(0, .ref (ad 276)), (1, .int (nI i)), (2, .int (nI mm))] := hl
  refine lv_iconst (v := 0) hx hb dX11_digits_0 (by decide) ?_
  refine lv_istore_n (lv' := [(3, .int 0), (0, .ref (ad 276)), (1, .int (nI i)), (2, .int (nI mm))]) hx hb dX11_digits_1 rfl hl (by decide) rfl (fun ls hl => ?_)
  refine lv_aload_n hx hb dX11_digits_2 rfl (lv_at hl 1 rfl) ?_
  refine gf S G hP 276 14 (by decide) oM rfl inX11 (by decide) fl_RX11_35 rfl rfl dX11_digits_3 ?_
  refine lv_iload_n hx hb dX11_digits_6 rfl (lv_at hl 2 rfl) ?_
  refine lv_iconst (v := 0) hx hb dX11_digits_7 (by decide) ?_
  refine ast S G hP hS 285 i (by decide) aM285 rfl (by omega) (by decide) dX11_digits_8 (fun H locs hP hS => ?_)
  have key_9 : ∀ (d k : Nat), k + d = mm → (dgs (σ 284) L (a + k) d + k = dgs (σ 284) L a mm) → (a + k ≤ L) → ∀ (H : Heap) (locs : List Loc) (ls : Array Slot), wP D ct ek ad X (sg (sg σ 285 i (dgV (σ 284) a k)) 276 12 (nI (a + k))) H → va_S (fr N0) s.heap H locs → lv_has ls 4 [(3, .int (nI k)), (0, .ref (ad 276)), (1, .int (nI i)), (2, .int (nI mm))] → W p l e (rmd 1 0 0) s m args below meth c H locs 0 0 (MQ below (wQi D ct ek ad N0 X (fun r τ => r = dgR (σ 284) L a mm ∧ τ = sg (sg σ 285 i (dgV (σ 284) a (dgs (σ 284) L a mm))) 276 12 (nI (a + dgs (σ 284) L a mm)))) args s 0 0 (fr N0)) (F0 m 9 ls []) := by
    intro d
    induction d with
    | zero =>
      intro k9 hk
      obtain rfl : mm = k9 := by omega
      intro hd hak H locs ls hP hS hl
      refine lv_iload_n hx hb dX11_digits_9 rfl (lv_at hl 0 rfl) ?_
      refine lv_iload_n hx hb dX11_digits_10 rfl (lv_at hl 3 rfl) ?_
      refine lv_icmp_ge (tgt := 85) hx hb dX11_digits_11 (by decide) (fun c_11 => ?_) (fun c_11 => absurd (nI_le (by omega) (by omega)) c_11)
      have hm9 : dgs (σ 284) L a mm = mm := by rw [← hd]; exact Nat.zero_add mm
      refine lv_iload_n hx hb dX11_digits_85 rfl (lv_at hl 0 rfl) ?_
      refine lv_if_le (tgt := 93) hx hb dX11_digits_86 (by decide) (fun c_86 => ?_) (fun c_86 => ?_)
      · refine lv_iconst (v := 0) hx hb dX11_digits_93 (by decide) ?_
        exact eZ S hr hlocks hP hS (by decide) dX11_digits_94 (by rw [hm9]; exact ⟨by rw [← hm9] at c_86; exact dgR_0 hm2 c_86, rfl⟩)
      · refine lv_iconst (v := 1) hx hb dX11_digits_89 (by decide) ?_
        refine lv_goto (tgt := 94) hx hb dX11_digits_90 (by decide) ?_
        exact eZ S hr hlocks hP hS (by decide) dX11_digits_94 (by rw [hm9]; exact ⟨by rw [← hm9] at c_86; exact dgR_1 c_86, rfl⟩)
    | succ d ih =>
      intro k hk hd hak H locs ls hP hS hl
      have hkn : k < mm := by omega
      refine lv_iload_n hx hb dX11_digits_9 rfl (lv_at hl 0 rfl) ?_
      refine lv_iload_n hx hb dX11_digits_10 rfl (lv_at hl 3 rfl) ?_
      refine lv_icmp_ge (tgt := 85) hx hb dX11_digits_11 (by decide) (fun c_11 => absurd c_11 (nI_ge (by omega) (by omega))) (fun c_11 => ?_)
      refine lv_aload_n hx hb dX11_digits_14 rfl (lv_at hl 1 rfl) ?_
      refine gf S G hP 276 12 (by decide) oM rfl inX11 (by decide) fl_RX11_206 rfl rfl dX11_digits_15 ?_
      refine lv_tope (y := nI (a + k)) (by rw [sg_ss]) ?_
      refine lv_aload_n hx hb dX11_digits_18 rfl (lv_at hl 1 rfl) ?_
      refine gf S G hP 276 11 (by decide) oM rfl inX11 (by decide) fl_RX11_203 rfl rfl dX11_digits_19 ?_
      refine lv_tope (y := nI L) (by simp only [sg_at]; simp [hL]) ?_
      refine lv_icmp_ge (tgt := 85) hx hb dX11_digits_22 (by decide) (fun c_22 => ?_) (fun c_22 => ?_)
      · have hg : dgC (σ 284) L (a + k) = 0 := if_pos c_22
        have hm9 : dgs (σ 284) L a mm = k := by rw [← hd, dgs_s, if_pos hg]; exact Nat.zero_add k
        refine lv_iload_n hx hb dX11_digits_85 rfl (lv_at hl 0 rfl) ?_
        refine lv_if_le (tgt := 93) hx hb dX11_digits_86 (by decide) (fun c_86 => ?_) (fun c_86 => ?_)
        · refine lv_iconst (v := 0) hx hb dX11_digits_93 (by decide) ?_
          exact eZ S hr hlocks hP hS (by decide) dX11_digits_94 (by rw [hm9]; exact ⟨by rw [← hm9] at c_86; exact dgR_0 hm2 c_86, rfl⟩)
        · refine lv_iconst (v := 1) hx hb dX11_digits_89 (by decide) ?_
          refine lv_goto (tgt := 94) hx hb dX11_digits_90 (by decide) ?_
          exact eZ S hr hlocks hP hS (by decide) dX11_digits_94 (by rw [hm9]; exact ⟨by rw [← hm9] at c_86; exact dgR_1 c_86, rfl⟩)
      · have hlt : a + k < L := by have : ¬ L ≤ a + k := fun z => c_22 (nI_le z (by omega)); omega
        refine lv_aload_n hx hb dX11_digits_25 rfl (lv_at hl 1 rfl) ?_
        refine gf S G hP 276 10 (by decide) oM rfl inX11 (by decide) fl_RX11_32 rfl rfl dX11_digits_26 ?_
        refine lv_aload_n hx hb dX11_digits_29 rfl (lv_at hl 1 rfl) ?_
        refine gf S G hP 276 12 (by decide) oM rfl inX11 (by decide) fl_RX11_206 rfl rfl dX11_digits_30 ?_
        refine lv_tope (y := nI (a + k)) (by rw [sg_ss]) ?_
        refine cld S G hP 284 (a + k) (by decide) (aM284 _) rfl (by omega) (by decide) dX11_digits_33 ?_
        refine lv_tope (y := σ 284 (a + k)) (by simp only [sg_at]; simp) ?_
        refine lv_bipush (v := 48) hx hb dX11_digits_34 (by decide) ?_
        refine lv_bipush (v := 57) hx hb dX11_digits_36 (by decide) ?_
        refine cSie (As := [.int (σ 284 (a + k)), .int 48, .int 57]) S G (c_X11_in l (D := D) (ct := ct) (ek := ek) (ad := ad) (N0 := N0) (X := X) (F := F) (sg (sg σ 285 i (dgV (σ 284) a k)) 276 12 (nI (a + k))) (σ 284 (a + k)) 48 57) ok_yX11_in ml_RX11_67 hP hS hl.1 rfl (by decide) rfl rfl (Nat.le_of_ble_eq_true rfl) ⟨Nat.zero_le _, Nat.zero_le _⟩ dX11_digits_38 (fun H locs hP hS => ?_)
        refine lv_if_eq (tgt := 85) hx hb dX11_digits_41 (by decide) (fun c_41 => ?_) (fun c_41 => ?_)
        · have hg : dgC (σ 284) L (a + k) = 0 := by unfold dgC; rw [if_neg c_22]; exact c_41
          have hm9 : dgs (σ 284) L a mm = k := by rw [← hd, dgs_s, if_pos hg]; exact Nat.zero_add k
          refine lv_iload_n hx hb dX11_digits_85 rfl (lv_at hl 0 rfl) ?_
          refine lv_if_le (tgt := 93) hx hb dX11_digits_86 (by decide) (fun c_86 => ?_) (fun c_86 => ?_)
          · refine lv_iconst (v := 0) hx hb dX11_digits_93 (by decide) ?_
            exact eZ S hr hlocks hP hS (by decide) dX11_digits_94 (by rw [hm9]; exact ⟨by rw [← hm9] at c_86; exact dgR_0 hm2 c_86, rfl⟩)
          · refine lv_iconst (v := 1) hx hb dX11_digits_89 (by decide) ?_
            refine lv_goto (tgt := 94) hx hb dX11_digits_90 (by decide) ?_
            exact eZ S hr hlocks hP hS (by decide) dX11_digits_94 (by rw [hm9]; exact ⟨by rw [← hm9] at c_86; exact dgR_1 c_86, rfl⟩)
        · refine lv_aload_n hx hb dX11_digits_44 rfl (lv_at hl 1 rfl) ?_
          refine gf S G hP 276 14 (by decide) oM rfl inX11 (by decide) fl_RX11_35 rfl rfl dX11_digits_45 ?_
          refine lv_iload_n hx hb dX11_digits_48 rfl (lv_at hl 2 rfl) ?_
          refine lv_bipush (v := 10) hx hb dX11_digits_49 (by decide) ?_
          refine lv_aload_n hx hb dX11_digits_51 rfl (lv_at hl 1 rfl) ?_
          refine gf S G hP 276 14 (by decide) oM rfl inX11 (by decide) fl_RX11_35 rfl rfl dX11_digits_52 ?_
          refine lv_iload_n hx hb dX11_digits_55 rfl (lv_at hl 2 rfl) ?_
          refine ald S G hP 285 i (by decide) (aM285 _) rfl (by omega) (by decide) dX11_digits_56 ?_
          refine lv_tope (y := dgV (σ 284) a k) (by simp only [sg_at]; simp) ?_
          refine lv_imul hx hb dX11_digits_57 ?_
          refine lv_aload_n hx hb dX11_digits_58 rfl (lv_at hl 1 rfl) ?_
          refine gf S G hP 276 10 (by decide) oM rfl inX11 (by decide) fl_RX11_32 rfl rfl dX11_digits_59 ?_
          refine lv_aload_n hx hb dX11_digits_62 rfl (lv_at hl 1 rfl) ?_
          refine lv_dup hx hb dX11_digits_63 rfl ?_
          refine gf S G hP 276 12 (by decide) oM rfl inX11 (by decide) fl_RX11_206 rfl rfl dX11_digits_64 ?_
          refine lv_tope (y := nI (a + k)) (by rw [sg_ss]) ?_
          refine lv_dup_x1 hx hb dX11_digits_67 rfl rfl ?_
          refine lv_iconst (v := 1) hx hb dX11_digits_68 (by decide) ?_
          refine nadd hx hb (a + k) 1 dX11_digits_69 rfl (by decide) ?_
          refine pf S G hP hS 276 12 (x := nI ((a + k) + 1)) tyX11 tyX11_ok nmX11 (by decide) oM rfl inX11 (by decide) fl_RX11_206 rfl rfl rfl rfl (Nat.le_of_ble_eq_true rfl) oM dX11_digits_70 (fun H locs hP hS => ?_)
          refine cld S G hP 284 (a + k) (by decide) (aM284 _) rfl (by omega) (by decide) dX11_digits_73 ?_
          refine lv_tope (y := σ 284 (a + k)) (by simp only [sg_at]; simp) ?_
          refine lv_iadd hx hb dX11_digits_74 ?_
          refine lv_bipush (v := 48) hx hb dX11_digits_75 (by decide) ?_
          refine lv_isub hx hb dX11_digits_77 ?_
          refine ast S G hP hS 285 i (by decide) aM285 rfl (by omega) (by decide) dX11_digits_78 (fun H locs hP hS => ?_)
          refine lv_iinc (v := nI (k + 1)) (lv' := [(3, .int (nI (k + 1))), (0, .ref (ad 276)), (1, .int (nI i)), (2, .int (nI mm))]) hx hb dX11_digits_79 hl (k := 0) rfl (nI_inc _) (by decide) rfl (fun ls hl => ?_)
          refine lv_goto (tgt := 9) hx hb dX11_digits_82 (by decide) ?_
          exact ih (k + 1) (by omega) (by rw [← hd, dgs_s, if_neg (show ¬ dgC (σ 284) L (a + k) = 0 from by unfold dgC; rw [if_neg c_22]; exact c_41), show a + (k + 1) = a + k + 1 from rfl]; omega) (by omega) _ _ _ (wP_e hP dg1) hS (by first | (refine lv_v (lv_sub (l' := [(3, .int (nI (k + 1))), (0, .ref (ad 276)), (1, .int (nI i)), (2, .int (nI mm))]) hl [0, 1, 2, 3] rfl) ?_; simp [fo, c_11, c_22, c_41]; done) | exact lv_sub hl [0, 1, 2, 3] rfl)
  exact key_9 mm 0 (by omega) rfl haL _ _ _ (wP_e hP (dg0 ha)) hS (lv_sub hl [0, 1, 2, 3] rfl)

theorem ok_yX11_isSigned : COK RX11 yX11_isSigned cX11_isSigned 2 (some .boolean) 0 := ⟨im_yX11_isSigned, se_RX11_yX11_isSigned, in_RX11, co_yX11_isSigned, ⟨rfl, by decide +kernel, by decide +kernel, by decide +kernel⟩, by decide⟩
set_option maxHeartbeats 1000000 in
set_option maxRecDepth 100000 in
theorem c_X11_isSigned (l : Launch) {D : va_G} {ct : Nat → ClassId} {ek ad : Nat → Nat} {N0 : Nat} {X : va_W} {F : State → Prop} (σ : Mem) (a : Nat) (ha : σ 276 12 = nI a) (L : Nat) (hL : σ 276 11 = nI L) (haL : a ≤ L) (hL6 : L ≤ 60) : MI l yX11_isSigned cX11_isSigned 2 (some .boolean) 2 D ct ek ad N0 X F [.ref (ad 276)] σ (fun r τ => r = psV (σ 284) L [43, 57] a ∧ CmP τ σ (psE (σ 284) L [43, 57] a) ∧ τ 276 13 = σ 276 13 ∧ (¬ r = 0 → τ 285 0 = sgd (nxV (σ 284) L a 45) (dgV (σ 284) (a + 1) (dgs (σ 284) L (a + 1) 2)))) := by
  refine ms0 (own := RX11) (by decide) rfl (Nat.le_of_ble_eq_true rfl) (fun p e s m args below meth c S hr hlocks hnm G hP hS ls hl => ?_)
  have hx := S.1
  have hb := S.2.1
  replace hl : lv_has ls 2 [(0, .ref (ad 276))] := hl
  refine lv_aload_n hx hb dX11_isSigned_0 rfl (lv_at hl 0 rfl) ?_
  refine gf S G hP 276 12 (by decide) oM rfl inX11 (by decide) fl_RX11_206 rfl rfl dX11_isSigned_1 ?_
  refine lv_tope (y := nI a) ha ?_
  refine lv_aload_n hx hb dX11_isSigned_4 rfl (lv_at hl 0 rfl) ?_
  refine gf S G hP 276 11 (by decide) oM rfl inX11 (by decide) fl_RX11_203 rfl rfl dX11_isSigned_5 ?_
  refine lv_tope (y := nI L) hL ?_
  have jn_8_1 : ∀ (H : Heap) (locs : List Loc) (ls : Array Slot), wP D ct ek ad X σ H → va_S (fr N0) s.heap H locs → lv_has ls 2 [(0, .ref (ad 276))] → W p l e (rmd 2 0 0) s m args below meth c H locs 0 0 (MQ below (wQi D ct ek ad N0 X (fun r τ => r = psV (σ 284) L [43, 57] a ∧ CmP τ σ (psE (σ 284) L [43, 57] a) ∧ τ 276 13 = σ 276 13 ∧ (¬ r = 0 → τ 285 0 = sgd (nxV (σ 284) L a 45) (dgV (σ 284) (a + 1) (dgs (σ 284) L (a + 1) 2))))) args s 0 0 (fr N0)) (F0 m 30 ls [.int (nxV (σ 284) L a 45)]) := by
    intro H locs ls hP hS hl
    refine lv_istore_n (lv' := [(1, .int (nxV (σ 284) L a 45)), (0, .ref (ad 276))]) hx hb dX11_isSigned_30 rfl hl (by decide) rfl (fun ls hl => ?_)
    refine lv_aload_n hx hb dX11_isSigned_31 rfl (lv_at hl 1 rfl) ?_
    refine lv_iload_n hx hb dX11_isSigned_32 rfl (lv_at hl 0 rfl) ?_
    have jn_33_2 : ∀ (H : Heap) (locs : List Loc) (ls : Array Slot), wP D ct ek ad X σ H → va_S (fr N0) s.heap H locs → lv_has ls 2 [(1, .int (nxV (σ 284) L a 45)), (0, .ref (ad 276))] → W p l e (rmd 2 0 0) s m args below meth c H locs 0 0 (MQ below (wQi D ct ek ad N0 X (fun r τ => r = psV (σ 284) L [43, 57] a ∧ CmP τ σ (psE (σ 284) L [43, 57] a) ∧ τ 276 13 = σ 276 13 ∧ (¬ r = 0 → τ 285 0 = sgd (nxV (σ 284) L a 45) (dgV (σ 284) (a + 1) (dgs (σ 284) L (a + 1) 2))))) args s 0 0 (fr N0)) (F0 m 43 ls [.int (sgC (σ 284) L a), .ref (ad 276)]) := by
      intro H locs ls hP hS hl
      refine cVie (As := [.int (sgC (σ 284) L a)]) S G 276 (c_X11_takes l (D := D) (ct := ct) (ek := ek) (ad := ad) (N0 := N0) (X := X) (F := F) σ (sgC (σ 284) L a) a (by first | assumption | omega | (simp [sg_at]; assumption) | (simp [sg_at]; done)) L (by first | assumption | omega | (simp [sg_at]; assumption) | (simp [sg_at]; done)) (by omega) (by omega)) ok_yX11_takes ml_RX11_209 (by decide) oM rfl hP hS hl.1 rfl (by decide) rfl rfl (Nat.le_of_ble_eq_true rfl) ⟨Nat.zero_le _, Nat.zero_le _⟩ dX11_isSigned_43 (fun H locs hP hS => ?_)
      refine lv_if_eq (tgt := 58) hx hb dX11_isSigned_46 (by decide) (fun c_46 => ?_) (fun c_46 => ?_)
      · refine lv_iconst (v := 0) hx hb dX11_isSigned_58 (by decide) ?_
        exact eZ S hr hlocks hP hS (by decide) dX11_isSigned_59 ⟨by simp only [psV, psE, pt43.1, pt43.2, pt57.1, pt57.2, c_46, ↓reduceIte], by simp only [psV, psE, pt43.1, pt43.2, pt57.1, pt57.2, c_46, ↓reduceIte]; exact CmP_at (CmP_0 ha), by simp only [sg_at]; simp, fun g => absurd rfl g⟩
      · refine lv_aload_n hx hb dX11_isSigned_49 rfl (lv_at hl 1 rfl) ?_
        refine lv_iconst (v := 0) hx hb dX11_isSigned_50 (by decide) ?_
        refine lv_iconst (v := 2) hx hb dX11_isSigned_51 (by decide) ?_
        refine cVie (As := [.int (nI 0), .int (nI 2)]) S G 276 (c_X11_digits l (D := D) (ct := ct) (ek := ek) (ad := ad) (N0 := N0) (X := X) (F := F) (sg σ 276 12 (nI (nxE (σ 284) L a (sgC (σ 284) L a)))) 0 (by omega) 2 (Nat.le_refl 2) (nxE (σ 284) L a (sgC (σ 284) L a)) sg_ss L (by simp only [sg_at]; simp [hL]) ((nx_le haL hL6).2) (by omega)) ok_yX11_digits ml_RX11_213 (by decide) oM rfl hP hS hl.1 rfl (by decide) rfl rfl (Nat.le_of_ble_eq_true rfl) ⟨Nat.zero_le _, Nat.zero_le _⟩ dX11_isSigned_52 (fun H locs hP hS => ?_)
        refine lv_tope (y := dgR (σ 284) L (nxE (σ 284) L a (sgC (σ 284) L a)) 2) rfl ?_
        replace hP : wP D ct ek ad X (sg (sg (sg σ 276 12 (nI (nxE (σ 284) L a (sgC (σ 284) L a)))) 285 0 (dgV (σ 284) (nxE (σ 284) L a (sgC (σ 284) L a)) (dgs (σ 284) L (nxE (σ 284) L a (sgC (σ 284) L a)) 2))) 276 12 (nI ((nxE (σ 284) L a (sgC (σ 284) L a)) + dgs (σ 284) L (nxE (σ 284) L a (sgC (σ 284) L a)) 2))) H := hP
        refine lv_if_ne (tgt := 60) hx hb dX11_isSigned_55 (by decide) (fun c_55 => ?_) (fun c_55 => ?_)
        · refine lv_iload_n hx hb dX11_isSigned_60 rfl (lv_at hl 0 rfl) ?_
          refine lv_if_eq (tgt := 77) hx hb dX11_isSigned_61 (by decide) (fun c_61 => ?_) (fun c_61 => ?_)
          · refine lv_iconst (v := 1) hx hb dX11_isSigned_77 (by decide) ?_
            exact eZ S hr hlocks hP hS (by decide) dX11_isSigned_78 ⟨by simp only [psV, psE, pt43.1, pt43.2, pt57.1, pt57.2, c_46, c_55, ↓reduceIte], by simp only [psV, psE, pt43.1, pt43.2, pt57.1, pt57.2, c_46, c_55, ↓reduceIte]; exact CmP_at (CmP_t (CmP_at (CmP_0 ha))), by simp only [sg_at]; simp, fun _ => by rw [← (nx_e1 c_46)]; unfold sgd; rw [if_pos c_61]; simp only [sg_at]; simp⟩
          · refine lv_aload_n hx hb dX11_isSigned_64 rfl (lv_at hl 1 rfl) ?_
            refine gf S G hP 276 14 (by decide) oM rfl inX11 (by decide) fl_RX11_35 rfl rfl dX11_isSigned_65 ?_
            refine lv_iconst (v := 0) hx hb dX11_isSigned_68 (by decide) ?_
            refine lv_aload_n hx hb dX11_isSigned_69 rfl (lv_at hl 1 rfl) ?_
            refine gf S G hP 276 14 (by decide) oM rfl inX11 (by decide) fl_RX11_35 rfl rfl dX11_isSigned_70 ?_
            refine lv_iconst (v := 0) hx hb dX11_isSigned_73 (by decide) ?_
            refine ald S G hP 285 0 (by decide) (aM285 _) (by decide) (by omega) (by decide) dX11_isSigned_74 ?_
            refine lv_tope (y := dgV (σ 284) (nxE (σ 284) L a (sgC (σ 284) L a)) (dgs (σ 284) L (nxE (σ 284) L a (sgC (σ 284) L a)) 2)) (by simp only [sg_at]; simp) ?_
            refine lv_ineg hx hb dX11_isSigned_75 ?_
            refine ast S G hP hS 285 0 (by decide) aM285 (by decide) (by omega) (by decide) dX11_isSigned_76 (fun H locs hP hS => ?_)
            refine lv_iconst (v := 1) hx hb dX11_isSigned_77 (by decide) ?_
            exact eZ S hr hlocks hP hS (by decide) dX11_isSigned_78 ⟨by simp only [psV, psE, pt43.1, pt43.2, pt57.1, pt57.2, c_46, c_55, ↓reduceIte], by simp only [psV, psE, pt43.1, pt43.2, pt57.1, pt57.2, c_46, c_55, ↓reduceIte]; exact CmP_t (CmP_at (CmP_t (CmP_at (CmP_0 ha)))), by simp only [sg_at]; simp, fun _ => by rw [← (nx_e1 c_46)]; unfold sgd; rw [if_neg c_61]; simp only [sg_at]; simp⟩
        · refine lv_iconst (v := 0) hx hb dX11_isSigned_58 (by decide) ?_
          exact eZ S hr hlocks hP hS (by decide) dX11_isSigned_59 ⟨by simp only [psV, psE, pt43.1, pt43.2, pt57.1, pt57.2, c_46, c_55, ↓reduceIte], by simp only [psV, psE, pt43.1, pt43.2, pt57.1, pt57.2, c_46, c_55, ↓reduceIte]; exact CmP_at (CmP_t (CmP_at (CmP_0 ha))), by simp only [sg_at]; simp, fun g => absurd rfl g⟩
    refine lv_if_eq (tgt := 41) hx hb dX11_isSigned_33 (by decide) (fun c_33 => ?_) (fun c_33 => ?_)
    · refine lv_bipush (v := 43) hx hb dX11_isSigned_41 (by decide) ?_
      refine lv_tope (y := sgC (σ 284) L a) (by unfold sgC; simp only [c_33, ↓reduceIte]) ?_
      exact jn_33_2 _ _ _ hP hS (lv_sub hl [0, 1] rfl)
    · refine lv_bipush (v := 45) hx hb dX11_isSigned_36 (by decide) ?_
      refine lv_goto (tgt := 43) hx hb dX11_isSigned_38 (by decide) ?_
      refine lv_tope (y := sgC (σ 284) L a) (by unfold sgC; simp only [c_33, ↓reduceIte]) ?_
      exact jn_33_2 _ _ _ hP hS (lv_sub hl [0, 1] rfl)
  refine lv_icmp_ge (tgt := 29) hx hb dX11_isSigned_8 (by decide) (fun c_8 => ?_) (fun c_8 => ?_)
  · refine lv_iconst (v := 0) hx hb dX11_isSigned_29 (by decide) ?_
    refine lv_tope (y := nxV (σ 284) L a 45) (by unfold nxV; simp only [c_8, ↓reduceIte]) ?_
    exact jn_8_1 _ _ _ hP hS (lv_sub hl [0] rfl)
  · have hlt : a < L := by have : ¬ L ≤ a := fun z => c_8 (nI_le z (by omega)); omega
    refine lv_aload_n hx hb dX11_isSigned_11 rfl (lv_at hl 0 rfl) ?_
    refine gf S G hP 276 10 (by decide) oM rfl inX11 (by decide) fl_RX11_32 rfl rfl dX11_isSigned_12 ?_
    refine lv_aload_n hx hb dX11_isSigned_15 rfl (lv_at hl 0 rfl) ?_
    refine gf S G hP 276 12 (by decide) oM rfl inX11 (by decide) fl_RX11_206 rfl rfl dX11_isSigned_16 ?_
    refine lv_tope (y := nI a) ha ?_
    refine cld S G hP 284 a (by decide) (aM284 _) rfl (by omega) (by decide) dX11_isSigned_19 ?_
    refine lv_bipush (v := 45) hx hb dX11_isSigned_20 (by decide) ?_
    refine lv_icmp_ne (tgt := 29) hx hb dX11_isSigned_22 (by decide) (fun c_22 => ?_) (fun c_22 => ?_)
    · refine lv_iconst (v := 0) hx hb dX11_isSigned_29 (by decide) ?_
      refine lv_tope (y := nxV (σ 284) L a 45) (by unfold nxV; simp only [c_8, c_22, ↓reduceIte]) ?_
      exact jn_8_1 _ _ _ hP hS (lv_sub hl [0] rfl)
    · refine lv_iconst (v := 1) hx hb dX11_isSigned_25 (by decide) ?_
      refine lv_goto (tgt := 30) hx hb dX11_isSigned_26 (by decide) ?_
      refine lv_tope (y := nxV (σ 284) L a 45) (by unfold nxV; simp only [c_8, c_22, ↓reduceIte]) ?_
      exact jn_8_1 _ _ _ hP hS (lv_sub hl [0] rfl)

theorem ok_yX11_isCommand : COK RX11 yX11_isCommand cX11_isCommand 1 (some .boolean) 0 := ⟨im_yX11_isCommand, se_RX11_yX11_isCommand, in_RX11, co_yX11_isCommand, ⟨rfl, by decide +kernel, by decide +kernel, by decide +kernel⟩, by decide⟩
set_option maxHeartbeats 1000000 in
set_option maxRecDepth 100000 in
theorem c_X11_isCommand (l : Launch) {D : va_G} {ct : Nat → ClassId} {ek ad : Nat → Nat} {N0 : Nat} {X : va_W} {F : State → Prop} (σ : Mem) (cs : Nat → Nat) (hF : ∀ U, F U → FX ek cs N0 U) (a : Nat) (ha : σ 276 12 = nI a) (L : Nat) (hL : σ 276 11 = nI L) (haL : a ≤ L) (hL6 : L ≤ 60) (hz : ∀ j, j < 60 → vp_nar .char (σ 284 j) = σ 284 j) : MI l yX11_isCommand cX11_isCommand 1 (some .boolean) 4 D ct ek ad N0 X F [.ref (ad 276)] σ (fun r τ => CmQ τ σ (σ 284) L a r) := by
  refine ms0 (own := RX11) (by decide) rfl (Nat.le_of_ble_eq_true rfl) (fun p e s m args below meth c S hr hlocks hnm G hP hS ls hl => ?_)
  have hx := S.1
  have hb := S.2.1
  replace hl : lv_has ls 1 [(0, .ref (ad 276))] := hl
  have FC := hF s G.2.2.2.2.2
  have hn8 : ¬ nI a = nI L → ¬ nI L ≤ nI a := fun h => nI_ge (by have : a ≠ L := fun z => h (by rw [z]); omega) (by omega)
  refine lv_aload_n hx hb dX11_isCommand_0 rfl (lv_at hl 0 rfl) ?_
  refine gf S G hP 276 12 (by decide) oM rfl inX11 (by decide) fl_RX11_206 rfl rfl dX11_isCommand_1 ?_
  refine lv_tope (y := nI a) ha ?_
  refine lv_aload_n hx hb dX11_isCommand_4 rfl (lv_at hl 0 rfl) ?_
  refine gf S G hP 276 11 (by decide) oM rfl inX11 (by decide) fl_RX11_203 rfl rfl dX11_isCommand_5 ?_
  refine lv_tope (y := nI L) hL ?_
  refine lv_icmp_eq (tgt := 28) hx hb dX11_isCommand_8 (by decide) (fun c_8 => ?_) (fun c_8 => ?_)
  · refine lv_iconst (v := 0) hx hb dX11_isCommand_28 (by decide) ?_
    exact eZ S hr hlocks hP hS (by decide) dX11_isCommand_29 (CmQ_n (kf_no (Or.inl (by rw [c_8]; exact Int32.le_refl _))) (CmP_0 ha))
  · have hlt : a < L := by have : a ≠ L := fun z => c_8 (by rw [z]); omega
    refine va_ldcS hx hb S.2.2.2.1 FC.s8 dX11_isCommand_11 ?_
    refine lv_aload_n hx hb dX11_isCommand_13 rfl (lv_at hl 0 rfl) ?_
    refine gf S G hP 276 10 (by decide) oM rfl inX11 (by decide) fl_RX11_32 rfl rfl dX11_isCommand_14 ?_
    refine lv_aload_n hx hb dX11_isCommand_17 rfl (lv_at hl 0 rfl) ?_
    refine gf S G hP 276 12 (by decide) oM rfl inX11 (by decide) fl_RX11_206 rfl rfl dX11_isCommand_18 ?_
    refine lv_tope (y := nI a) ha ?_
    refine cld S G hP 284 a (by decide) (aM284 _) rfl (by omega) (by decide) dX11_isCommand_21 ?_
    refine cKie (As := [.int (σ 284 a)]) S G (c_J0_indexOf_0f7a4 l (D := D) (ct := ct) (ek := ek) (ad := ad) (N0 := N0) (X := X) (F := F) σ cs (by first | assumption | omega | (simp [sg_at]; assumption) | (simp [sg_at]; done)) (σ 284 a) (by decide)) ok_yJ0_indexOf_0f7a4 ml_RX11_218 (vk_recv FC.str (by decide) hS) hP hS hl.1 rfl (by decide) rfl rfl (Nat.le_of_ble_eq_true rfl) ⟨Nat.zero_le _, Nat.zero_le _⟩ dX11_isCommand_22 (fun H locs hP hS => ?_)
    refine lv_if_ge (tgt := 30) hx hb dX11_isCommand_25 (by decide) (fun c_25 => ?_) (fun c_25 => ?_)
    · refine lv_aload_n hx hb dX11_isCommand_30 rfl (lv_at hl 0 rfl) ?_
      refine lv_aload_n hx hb dX11_isCommand_31 rfl (lv_at hl 0 rfl) ?_
      refine gf S G hP 276 10 (by decide) oM rfl inX11 (by decide) fl_RX11_32 rfl rfl dX11_isCommand_32 ?_
      refine lv_aload_n hx hb dX11_isCommand_35 rfl (lv_at hl 0 rfl) ?_
      refine lv_dup hx hb dX11_isCommand_36 rfl ?_
      refine gf S G hP 276 12 (by decide) oM rfl inX11 (by decide) fl_RX11_206 rfl rfl dX11_isCommand_37 ?_
      refine lv_tope (y := nI a) ha ?_
      refine lv_dup_x1 hx hb dX11_isCommand_40 rfl rfl ?_
      refine lv_iconst (v := 1) hx hb dX11_isCommand_41 (by decide) ?_
      refine nadd hx hb a 1 dX11_isCommand_42 rfl (by decide) ?_
      refine pf S G hP hS 276 12 (x := nI (a + 1)) tyX11 tyX11_ok nmX11 (by decide) oM rfl inX11 (by decide) fl_RX11_206 rfl rfl rfl rfl (Nat.le_of_ble_eq_true rfl) oM dX11_isCommand_43 (fun H locs hP hS => ?_)
      refine cld S G hP 284 a (by decide) (aM284 _) rfl (by omega) (by decide) dX11_isCommand_46 ?_
      refine lv_tope (y := σ 284 a) (by rw [sg_n (by decide)]) ?_
      refine pf S G hP hS 276 13 (x := σ 284 a) tyX11 tyX11_ok nmX11 (by decide) oM rfl inX11 (by decide) fl_RX11_223 rfl rfl (congrArg Value.int (hz a (by omega))) (fit_c (hz a (by omega))) (Nat.le_of_ble_eq_true rfl) oM dX11_isCommand_47 (fun H locs hP hS => ?_)
      refine lv_aload_n hx hb dX11_isCommand_50 rfl (lv_at hl 0 rfl) ?_
      refine gf S G hP 276 13 (by decide) oM rfl inX11 (by decide) fl_RX11_223 rfl rfl dX11_isCommand_51 ?_
      refine lv_tope (y := σ 284 a) (by rw [sg_ss]) ?_
      rcases (ixV_in c_25) with c_54_111 | c_54_115 | c_54_102 | c_54_114 | c_54_112 | c_54_98 | c_54_120 | c_54_104
      · refine lv_tableIn (off := 86) (tgt := 140) hx hb dX11_isCommand_54 (by rw [show σ 284 a = 111 from c_54_111]; decide) (by rw [show σ 284 a = 111 from c_54_111]; decide) (by rw [show σ 284 a = 111 from c_54_111]; rfl) (by decide) ?_
        refine lv_aload_n hx hb dX11_isCommand_140 rfl (lv_at hl 0 rfl) ?_
        refine cVi (As := []) S G 276 (c_X11_isSigned l (D := D) (ct := ct) (ek := ek) (ad := ad) (N0 := N0) (X := X) (F := F) (sg (sg σ 276 12 (nI (a + 1))) 276 13 (σ 284 a)) (a + 1) (by simp only [sg_at]; simp) L (by simp only [sg_at]; simp [hL]) (by omega) (by omega)) ok_yX11_isSigned ml_RX11_227 (by decide) oM rfl hP hS hl.1 rfl (by decide) rfl rfl (Nat.le_of_ble_eq_true rfl) ⟨Nat.zero_le _, Nat.zero_le _⟩ dX11_isCommand_141 (fun r_3 τ_4 H locs hp_r_3 hP hS => ?_)
        obtain ⟨q1, q2, q3, q4⟩ := hp_r_3
        replace q1 : r_3 = psV (σ 284) L [43, 57] (a + 1) := q1
        refine eZ S hr hlocks hP hS (by rw [q1]; exact psV_nar _) dX11_isCommand_144 ?_
        exact CmQ_sg (j := 0) (by decide) (hn8 c_8) c_54_111 q1 (CmP_tr q2 (CmP_w (CmP_at (CmP_0 ha)))) (by rw [q3, sg_ss]; exact c_54_111) (fun g => q4 g)
      · refine lv_tableIn (off := 86) (tgt := 140) hx hb dX11_isCommand_54 (by rw [show σ 284 a = 115 from c_54_115]; decide) (by rw [show σ 284 a = 115 from c_54_115]; decide) (by rw [show σ 284 a = 115 from c_54_115]; rfl) (by decide) ?_
        refine lv_aload_n hx hb dX11_isCommand_140 rfl (lv_at hl 0 rfl) ?_
        refine cVi (As := []) S G 276 (c_X11_isSigned l (D := D) (ct := ct) (ek := ek) (ad := ad) (N0 := N0) (X := X) (F := F) (sg (sg σ 276 12 (nI (a + 1))) 276 13 (σ 284 a)) (a + 1) (by simp only [sg_at]; simp) L (by simp only [sg_at]; simp [hL]) (by omega) (by omega)) ok_yX11_isSigned ml_RX11_227 (by decide) oM rfl hP hS hl.1 rfl (by decide) rfl rfl (Nat.le_of_ble_eq_true rfl) ⟨Nat.zero_le _, Nat.zero_le _⟩ dX11_isCommand_141 (fun r_5 τ_6 H locs hp_r_5 hP hS => ?_)
        obtain ⟨q1, q2, q3, q4⟩ := hp_r_5
        replace q1 : r_5 = psV (σ 284) L [43, 57] (a + 1) := q1
        refine eZ S hr hlocks hP hS (by rw [q1]; exact psV_nar _) dX11_isCommand_144 ?_
        exact CmQ_sg (j := 1) (by decide) (hn8 c_8) c_54_115 q1 (CmP_tr q2 (CmP_w (CmP_at (CmP_0 ha)))) (by rw [q3, sg_ss]; exact c_54_115) (fun g => q4 g)
      · refine lv_tableIn (off := 91) (tgt := 145) hx hb dX11_isCommand_54 (by rw [show σ 284 a = 102 from c_54_102]; decide) (by rw [show σ 284 a = 102 from c_54_102]; decide) (by rw [show σ 284 a = 102 from c_54_102]; rfl) (by decide) ?_
        refine lv_aload_n hx hb dX11_isCommand_145 rfl (lv_at hl 0 rfl) ?_
        refine lv_iconst (v := 0) hx hb dX11_isCommand_146 (by decide) ?_
        refine lv_iconst (v := 1) hx hb dX11_isCommand_147 (by decide) ?_
        refine cVie (As := [.int (nI 0), .int (nI 1)]) S G 276 (c_X11_digits l (D := D) (ct := ct) (ek := ek) (ad := ad) (N0 := N0) (X := X) (F := F) (sg (sg σ 276 12 (nI (a + 1))) 276 13 (σ 284 a)) 0 (by omega) 1 (by decide) (a + 1) (by first | exact sg_ss | (simp only [sg_at]; simp; done)) L (by simp only [sg_at]; simp [hL]) (show a + 1 ≤ L by omega) (by omega)) ok_yX11_digits ml_RX11_213 (by decide) oM rfl hP hS hl.1 rfl (by decide) rfl rfl (Nat.le_of_ble_eq_true rfl) ⟨Nat.zero_le _, Nat.zero_le _⟩ dX11_isCommand_148 (fun H locs hP hS => ?_)
        refine lv_tope (y := dgR (σ 284) L (a + 1) 1) rfl ?_
        replace hP : wP D ct ek ad X (sg (sg (sg (sg σ 276 12 (nI (a + 1))) 276 13 (σ 284 a)) 285 0 (dgV (σ 284) (a + 1) (dgs (σ 284) L (a + 1) 1))) 276 12 (nI ((a + 1) + dgs (σ 284) L (a + 1) 1))) H := hP
        refine lv_if_eq (tgt := 185) hx hb dX11_isCommand_151 (by decide) (fun c_151 => ?_) (fun c_151 => ?_)
        · refine lv_iconst (v := 0) hx hb dX11_isCommand_185 (by decide) ?_
          exact eZ S hr hlocks hP hS (by decide) dX11_isCommand_186 (CmQ_f (j := 2) (kf_at (hn8 c_8) (by decide) c_54_102) (by decide) ((ps_f (hn8 c_8) c_54_102).1.trans (by simp only [c_151, ↓reduceIte])) ((ps_f (hn8 c_8) c_54_102).2.1.trans (by simp only [c_151, ↓reduceIte])) (CmP_at (CmP_t (CmP_w (CmP_at (CmP_0 ha))))))
        · refine lv_aload_n hx hb dX11_isCommand_154 rfl (lv_at hl 0 rfl) ?_
          refine lv_iconst (v := 1) hx hb dX11_isCommand_155 (by decide) ?_
          refine lv_iconst (v := 1) hx hb dX11_isCommand_156 (by decide) ?_
          refine cVie (As := [.int (nI 1), .int (nI 1)]) S G 276 (c_X11_digits l (D := D) (ct := ct) (ek := ek) (ad := ad) (N0 := N0) (X := X) (F := F) (sg (sg (sg (sg σ 276 12 (nI (a + 1))) 276 13 (σ 284 a)) 285 0 (dgV (σ 284) (a + 1) (dgs (σ 284) L (a + 1) 1))) 276 12 (nI ((a + 1) + dgs (σ 284) L (a + 1) 1))) 1 (by omega) 1 (by decide) ((a + 1) + dgs (σ 284) L (a + 1) 1) (by first | exact sg_ss | (simp only [sg_at]; simp; done)) L (by simp only [sg_at]; simp [hL]) (dgs_le (show a + 1 ≤ L by omega) hL6 1) (by omega)) ok_yX11_digits ml_RX11_213 (by decide) oM rfl hP hS hl.1 rfl (by decide) rfl rfl (Nat.le_of_ble_eq_true rfl) ⟨Nat.zero_le _, Nat.zero_le _⟩ dX11_isCommand_157 (fun H locs hP hS => ?_)
          refine lv_tope (y := dgR (σ 284) L ((a + 1) + dgs (σ 284) L (a + 1) 1) 1) rfl ?_
          replace hP : wP D ct ek ad X (sg (sg (sg (sg (sg (sg σ 276 12 (nI (a + 1))) 276 13 (σ 284 a)) 285 0 (dgV (σ 284) (a + 1) (dgs (σ 284) L (a + 1) 1))) 276 12 (nI ((a + 1) + dgs (σ 284) L (a + 1) 1))) 285 1 (dgV (σ 284) ((a + 1) + dgs (σ 284) L (a + 1) 1) (dgs (σ 284) L ((a + 1) + dgs (σ 284) L (a + 1) 1) 1))) 276 12 (nI (((a + 1) + dgs (σ 284) L (a + 1) 1) + dgs (σ 284) L ((a + 1) + dgs (σ 284) L (a + 1) 1) 1))) H := hP
          refine lv_if_eq (tgt := 185) hx hb dX11_isCommand_160 (by decide) (fun c_160 => ?_) (fun c_160 => ?_)
          · refine lv_iconst (v := 0) hx hb dX11_isCommand_185 (by decide) ?_
            exact eZ S hr hlocks hP hS (by decide) dX11_isCommand_186 (CmQ_f (j := 2) (kf_at (hn8 c_8) (by decide) c_54_102) (by decide) ((ps_f (hn8 c_8) c_54_102).1.trans (by simp only [c_151, c_160, ↓reduceIte])) ((ps_f (hn8 c_8) c_54_102).2.1.trans (by simp only [c_151, c_160, ↓reduceIte])) (CmP_at (CmP_t (CmP_at (CmP_t (CmP_w (CmP_at (CmP_0 ha))))))))
          · refine lv_aload_n hx hb dX11_isCommand_163 rfl (lv_at hl 0 rfl) ?_
            refine lv_bipush (v := 42) hx hb dX11_isCommand_164 (by decide) ?_
            refine cVie (As := [.int 42]) S G 276 (c_X11_takes l (D := D) (ct := ct) (ek := ek) (ad := ad) (N0 := N0) (X := X) (F := F) (sg (sg (sg (sg (sg (sg σ 276 12 (nI (a + 1))) 276 13 (σ 284 a)) 285 0 (dgV (σ 284) (a + 1) (dgs (σ 284) L (a + 1) 1))) 276 12 (nI ((a + 1) + dgs (σ 284) L (a + 1) 1))) 285 1 (dgV (σ 284) ((a + 1) + dgs (σ 284) L (a + 1) 1) (dgs (σ 284) L ((a + 1) + dgs (σ 284) L (a + 1) 1) 1))) 276 12 (nI (((a + 1) + dgs (σ 284) L (a + 1) 1) + dgs (σ 284) L ((a + 1) + dgs (σ 284) L (a + 1) 1) 1))) 42 (((a + 1) + dgs (σ 284) L (a + 1) 1) + dgs (σ 284) L ((a + 1) + dgs (σ 284) L (a + 1) 1) 1) sg_ss L (by simp only [sg_at]; simp [hL]) (dgs_le (dgs_le (show a + 1 ≤ L by omega) hL6 1) hL6 1) (by omega)) ok_yX11_takes ml_RX11_209 (by decide) oM rfl hP hS hl.1 rfl (by decide) rfl rfl (Nat.le_of_ble_eq_true rfl) ⟨Nat.zero_le _, Nat.zero_le _⟩ dX11_isCommand_166 (fun H locs hP hS => ?_)
            refine lv_tope (y := nxV (σ 284) L (((a + 1) + dgs (σ 284) L (a + 1) 1) + dgs (σ 284) L ((a + 1) + dgs (σ 284) L (a + 1) 1) 1) 42) rfl ?_
            replace hP : wP D ct ek ad X (sg (sg (sg (sg (sg (sg (sg σ 276 12 (nI (a + 1))) 276 13 (σ 284 a)) 285 0 (dgV (σ 284) (a + 1) (dgs (σ 284) L (a + 1) 1))) 276 12 (nI ((a + 1) + dgs (σ 284) L (a + 1) 1))) 285 1 (dgV (σ 284) ((a + 1) + dgs (σ 284) L (a + 1) 1) (dgs (σ 284) L ((a + 1) + dgs (σ 284) L (a + 1) 1) 1))) 276 12 (nI (((a + 1) + dgs (σ 284) L (a + 1) 1) + dgs (σ 284) L ((a + 1) + dgs (σ 284) L (a + 1) 1) 1))) 276 12 (nI (nxE (σ 284) L (((a + 1) + dgs (σ 284) L (a + 1) 1) + dgs (σ 284) L ((a + 1) + dgs (σ 284) L (a + 1) 1) 1) 42))) H := hP
            refine lv_if_eq (tgt := 185) hx hb dX11_isCommand_169 (by decide) (fun c_169 => ?_) (fun c_169 => ?_)
            · refine lv_iconst (v := 0) hx hb dX11_isCommand_185 (by decide) ?_
              exact eZ S hr hlocks hP hS (by decide) dX11_isCommand_186 (CmQ_f (j := 2) (kf_at (hn8 c_8) (by decide) c_54_102) (by decide) ((ps_f (hn8 c_8) c_54_102).1.trans (by simp only [c_151, c_160, c_169, ↓reduceIte])) ((ps_f (hn8 c_8) c_54_102).2.1.trans (by simp only [c_151, c_160, c_169, ↓reduceIte])) (CmP_at (CmP_at (CmP_t (CmP_at (CmP_t (CmP_w (CmP_at (CmP_0 ha)))))))))
            · refine lv_aload_n hx hb dX11_isCommand_172 rfl (lv_at hl 0 rfl) ?_
              refine lv_iconst (v := 2) hx hb dX11_isCommand_173 (by decide) ?_
              refine lv_iconst (v := 1) hx hb dX11_isCommand_174 (by decide) ?_
              refine cVie (As := [.int (nI 2), .int (nI 1)]) S G 276 (c_X11_digits l (D := D) (ct := ct) (ek := ek) (ad := ad) (N0 := N0) (X := X) (F := F) (sg (sg (sg (sg (sg (sg (sg σ 276 12 (nI (a + 1))) 276 13 (σ 284 a)) 285 0 (dgV (σ 284) (a + 1) (dgs (σ 284) L (a + 1) 1))) 276 12 (nI ((a + 1) + dgs (σ 284) L (a + 1) 1))) 285 1 (dgV (σ 284) ((a + 1) + dgs (σ 284) L (a + 1) 1) (dgs (σ 284) L ((a + 1) + dgs (σ 284) L (a + 1) 1) 1))) 276 12 (nI (((a + 1) + dgs (σ 284) L (a + 1) 1) + dgs (σ 284) L ((a + 1) + dgs (σ 284) L (a + 1) 1) 1))) 276 12 (nI (nxE (σ 284) L (((a + 1) + dgs (σ 284) L (a + 1) 1) + dgs (σ 284) L ((a + 1) + dgs (σ 284) L (a + 1) 1) 1) 42))) 2 (by omega) 1 (by decide) (nxE (σ 284) L (((a + 1) + dgs (σ 284) L (a + 1) 1) + dgs (σ 284) L ((a + 1) + dgs (σ 284) L (a + 1) 1) 1) 42) (by first | exact sg_ss | (simp only [sg_at]; simp; done)) L (by simp only [sg_at]; simp [hL]) ((nx_le (dgs_le (dgs_le (show a + 1 ≤ L by omega) hL6 1) hL6 1) hL6).2) (by omega)) ok_yX11_digits ml_RX11_213 (by decide) oM rfl hP hS hl.1 rfl (by decide) rfl rfl (Nat.le_of_ble_eq_true rfl) ⟨Nat.zero_le _, Nat.zero_le _⟩ dX11_isCommand_175 (fun H locs hP hS => ?_)
              refine lv_tope (y := dgR (σ 284) L (nxE (σ 284) L (((a + 1) + dgs (σ 284) L (a + 1) 1) + dgs (σ 284) L ((a + 1) + dgs (σ 284) L (a + 1) 1) 1) 42) 1) rfl ?_
              replace hP : wP D ct ek ad X (sg (sg (sg (sg (sg (sg (sg (sg (sg σ 276 12 (nI (a + 1))) 276 13 (σ 284 a)) 285 0 (dgV (σ 284) (a + 1) (dgs (σ 284) L (a + 1) 1))) 276 12 (nI ((a + 1) + dgs (σ 284) L (a + 1) 1))) 285 1 (dgV (σ 284) ((a + 1) + dgs (σ 284) L (a + 1) 1) (dgs (σ 284) L ((a + 1) + dgs (σ 284) L (a + 1) 1) 1))) 276 12 (nI (((a + 1) + dgs (σ 284) L (a + 1) 1) + dgs (σ 284) L ((a + 1) + dgs (σ 284) L (a + 1) 1) 1))) 276 12 (nI (nxE (σ 284) L (((a + 1) + dgs (σ 284) L (a + 1) 1) + dgs (σ 284) L ((a + 1) + dgs (σ 284) L (a + 1) 1) 1) 42))) 285 2 (dgV (σ 284) (nxE (σ 284) L (((a + 1) + dgs (σ 284) L (a + 1) 1) + dgs (σ 284) L ((a + 1) + dgs (σ 284) L (a + 1) 1) 1) 42) (dgs (σ 284) L (nxE (σ 284) L (((a + 1) + dgs (σ 284) L (a + 1) 1) + dgs (σ 284) L ((a + 1) + dgs (σ 284) L (a + 1) 1) 1) 42) 1))) 276 12 (nI ((nxE (σ 284) L (((a + 1) + dgs (σ 284) L (a + 1) 1) + dgs (σ 284) L ((a + 1) + dgs (σ 284) L (a + 1) 1) 1) 42) + dgs (σ 284) L (nxE (σ 284) L (((a + 1) + dgs (σ 284) L (a + 1) 1) + dgs (σ 284) L ((a + 1) + dgs (σ 284) L (a + 1) 1) 1) 42) 1))) H := hP
              refine lv_if_eq (tgt := 185) hx hb dX11_isCommand_178 (by decide) (fun c_178 => ?_) (fun c_178 => ?_)
              · refine lv_iconst (v := 0) hx hb dX11_isCommand_185 (by decide) ?_
                exact eZ S hr hlocks hP hS (by decide) dX11_isCommand_186 (CmQ_f (j := 2) (kf_at (hn8 c_8) (by decide) c_54_102) (by decide) ((ps_f (hn8 c_8) c_54_102).1.trans (by simp only [c_151, c_160, c_169, c_178, ↓reduceIte])) ((ps_f (hn8 c_8) c_54_102).2.1.trans (by simp only [c_151, c_160, c_169, c_178, ↓reduceIte])) (CmP_at (CmP_t (CmP_at (CmP_at (CmP_t (CmP_at (CmP_t (CmP_w (CmP_at (CmP_0 ha)))))))))))
              · refine lv_iconst (v := 1) hx hb dX11_isCommand_181 (by decide) ?_
                refine lv_goto (tgt := 186) hx hb dX11_isCommand_182 (by decide) ?_
                exact eZ S hr hlocks hP hS (by decide) dX11_isCommand_186 (CmQ_s (j := 2) (kf_at (hn8 c_8) (by decide) c_54_102) (by decide) ((ps_f (hn8 c_8) c_54_102).1.trans (by simp only [c_151, c_160, c_169, c_178, ↓reduceIte])) ((ps_f (hn8 c_8) c_54_102).2.1.trans (by simp only [c_151, c_160, c_169, c_178, ↓reduceIte])) (CmP_at (CmP_t (CmP_at (CmP_at (CmP_t (CmP_at (CmP_t (CmP_w (CmP_at (CmP_0 ha)))))))))) (by simp only [sg_at]; simp; exact c_54_102) (fun i hi => by rw [(ps_f (hn8 c_8) c_54_102).2.2] at hi ⊢; rcases (show i = 0 ∨ i = 1 ∨ i = 2 by simp only [List.length_cons, List.length_nil] at hi; omega) with rfl | rfl | rfl <;> (simp only [sg_at, sgd]; simp)))
      · refine lv_tableIn (off := 133) (tgt := 187) hx hb dX11_isCommand_54 (by rw [show σ 284 a = 114 from c_54_114]; decide) (by rw [show σ 284 a = 114 from c_54_114]; decide) (by rw [show σ 284 a = 114 from c_54_114]; rfl) (by decide) ?_
        refine lv_iconst (v := 1) hx hb dX11_isCommand_187 (by decide) ?_
        exact eZ S hr hlocks hP hS (by decide) dX11_isCommand_188 (CmQ_s (j := 3) (kf_at (hn8 c_8) (by decide) c_54_114) (by decide) (ps_r (hn8 c_8) c_54_114).1 (ps_r (hn8 c_8) c_54_114).2.1 (CmP_w (CmP_at (CmP_0 ha))) (by rw [sg_ss]; exact c_54_114) (fun i hi => by rw [(ps_r (hn8 c_8) c_54_114).2.2] at hi; exact absurd hi (Nat.not_lt_zero _)))
      · refine lv_tableIn (off := 135) (tgt := 189) hx hb dX11_isCommand_54 (by rw [show σ 284 a = 112 from c_54_112]; decide) (by rw [show σ 284 a = 112 from c_54_112]; decide) (by rw [show σ 284 a = 112 from c_54_112]; rfl) (by decide) ?_
        refine lv_aload_n hx hb dX11_isCommand_189 rfl (lv_at hl 0 rfl) ?_
        refine lv_iconst (v := 0) hx hb dX11_isCommand_190 (by decide) ?_
        refine lv_iconst (v := 1) hx hb dX11_isCommand_191 (by decide) ?_
        refine cVie (As := [.int (nI 0), .int (nI 1)]) S G 276 (c_X11_digits l (D := D) (ct := ct) (ek := ek) (ad := ad) (N0 := N0) (X := X) (F := F) (sg (sg σ 276 12 (nI (a + 1))) 276 13 (σ 284 a)) 0 (by omega) 1 (by decide) (a + 1) (by first | exact sg_ss | (simp only [sg_at]; simp; done)) L (by simp only [sg_at]; simp [hL]) (show a + 1 ≤ L by omega) (by omega)) ok_yX11_digits ml_RX11_213 (by decide) oM rfl hP hS hl.1 rfl (by decide) rfl rfl (Nat.le_of_ble_eq_true rfl) ⟨Nat.zero_le _, Nat.zero_le _⟩ dX11_isCommand_192 (fun H locs hP hS => ?_)
        refine lv_tope (y := dgR (σ 284) L (a + 1) 1) rfl ?_
        replace hP : wP D ct ek ad X (sg (sg (sg (sg σ 276 12 (nI (a + 1))) 276 13 (σ 284 a)) 285 0 (dgV (σ 284) (a + 1) (dgs (σ 284) L (a + 1) 1))) 276 12 (nI ((a + 1) + dgs (σ 284) L (a + 1) 1))) H := hP
        refine lv_if_eq (tgt := 220) hx hb dX11_isCommand_195 (by decide) (fun c_195 => ?_) (fun c_195 => ?_)
        · refine lv_iconst (v := 0) hx hb dX11_isCommand_220 (by decide) ?_
          exact eZ S hr hlocks hP hS (by decide) dX11_isCommand_221 (CmQ_f (j := 4) (kf_at (hn8 c_8) (by decide) c_54_112) (by decide) ((ps_p (hn8 c_8) c_54_112).1.trans (by simp only [c_195, ↓reduceIte])) ((ps_p (hn8 c_8) c_54_112).2.1.trans (by simp only [c_195, ↓reduceIte])) (CmP_at (CmP_t (CmP_w (CmP_at (CmP_0 ha))))))
        · refine lv_aload_n hx hb dX11_isCommand_198 rfl (lv_at hl 0 rfl) ?_
          refine lv_bipush (v := 42) hx hb dX11_isCommand_199 (by decide) ?_
          refine cVie (As := [.int 42]) S G 276 (c_X11_takes l (D := D) (ct := ct) (ek := ek) (ad := ad) (N0 := N0) (X := X) (F := F) (sg (sg (sg (sg σ 276 12 (nI (a + 1))) 276 13 (σ 284 a)) 285 0 (dgV (σ 284) (a + 1) (dgs (σ 284) L (a + 1) 1))) 276 12 (nI ((a + 1) + dgs (σ 284) L (a + 1) 1))) 42 ((a + 1) + dgs (σ 284) L (a + 1) 1) sg_ss L (by simp only [sg_at]; simp [hL]) (dgs_le (show a + 1 ≤ L by omega) hL6 1) (by omega)) ok_yX11_takes ml_RX11_209 (by decide) oM rfl hP hS hl.1 rfl (by decide) rfl rfl (Nat.le_of_ble_eq_true rfl) ⟨Nat.zero_le _, Nat.zero_le _⟩ dX11_isCommand_201 (fun H locs hP hS => ?_)
          refine lv_tope (y := nxV (σ 284) L ((a + 1) + dgs (σ 284) L (a + 1) 1) 42) rfl ?_
          replace hP : wP D ct ek ad X (sg (sg (sg (sg (sg σ 276 12 (nI (a + 1))) 276 13 (σ 284 a)) 285 0 (dgV (σ 284) (a + 1) (dgs (σ 284) L (a + 1) 1))) 276 12 (nI ((a + 1) + dgs (σ 284) L (a + 1) 1))) 276 12 (nI (nxE (σ 284) L ((a + 1) + dgs (σ 284) L (a + 1) 1) 42))) H := hP
          refine lv_if_eq (tgt := 220) hx hb dX11_isCommand_204 (by decide) (fun c_204 => ?_) (fun c_204 => ?_)
          · refine lv_iconst (v := 0) hx hb dX11_isCommand_220 (by decide) ?_
            exact eZ S hr hlocks hP hS (by decide) dX11_isCommand_221 (CmQ_f (j := 4) (kf_at (hn8 c_8) (by decide) c_54_112) (by decide) ((ps_p (hn8 c_8) c_54_112).1.trans (by simp only [c_195, c_204, ↓reduceIte])) ((ps_p (hn8 c_8) c_54_112).2.1.trans (by simp only [c_195, c_204, ↓reduceIte])) (CmP_at (CmP_at (CmP_t (CmP_w (CmP_at (CmP_0 ha)))))))
          · refine lv_aload_n hx hb dX11_isCommand_207 rfl (lv_at hl 0 rfl) ?_
            refine lv_iconst (v := 1) hx hb dX11_isCommand_208 (by decide) ?_
            refine lv_iconst (v := 1) hx hb dX11_isCommand_209 (by decide) ?_
            refine cVie (As := [.int (nI 1), .int (nI 1)]) S G 276 (c_X11_digits l (D := D) (ct := ct) (ek := ek) (ad := ad) (N0 := N0) (X := X) (F := F) (sg (sg (sg (sg (sg σ 276 12 (nI (a + 1))) 276 13 (σ 284 a)) 285 0 (dgV (σ 284) (a + 1) (dgs (σ 284) L (a + 1) 1))) 276 12 (nI ((a + 1) + dgs (σ 284) L (a + 1) 1))) 276 12 (nI (nxE (σ 284) L ((a + 1) + dgs (σ 284) L (a + 1) 1) 42))) 1 (by omega) 1 (by decide) (nxE (σ 284) L ((a + 1) + dgs (σ 284) L (a + 1) 1) 42) (by first | exact sg_ss | (simp only [sg_at]; simp; done)) L (by simp only [sg_at]; simp [hL]) ((nx_le (dgs_le (show a + 1 ≤ L by omega) hL6 1) hL6).2) (by omega)) ok_yX11_digits ml_RX11_213 (by decide) oM rfl hP hS hl.1 rfl (by decide) rfl rfl (Nat.le_of_ble_eq_true rfl) ⟨Nat.zero_le _, Nat.zero_le _⟩ dX11_isCommand_210 (fun H locs hP hS => ?_)
            refine lv_tope (y := dgR (σ 284) L (nxE (σ 284) L ((a + 1) + dgs (σ 284) L (a + 1) 1) 42) 1) rfl ?_
            replace hP : wP D ct ek ad X (sg (sg (sg (sg (sg (sg (sg σ 276 12 (nI (a + 1))) 276 13 (σ 284 a)) 285 0 (dgV (σ 284) (a + 1) (dgs (σ 284) L (a + 1) 1))) 276 12 (nI ((a + 1) + dgs (σ 284) L (a + 1) 1))) 276 12 (nI (nxE (σ 284) L ((a + 1) + dgs (σ 284) L (a + 1) 1) 42))) 285 1 (dgV (σ 284) (nxE (σ 284) L ((a + 1) + dgs (σ 284) L (a + 1) 1) 42) (dgs (σ 284) L (nxE (σ 284) L ((a + 1) + dgs (σ 284) L (a + 1) 1) 42) 1))) 276 12 (nI ((nxE (σ 284) L ((a + 1) + dgs (σ 284) L (a + 1) 1) 42) + dgs (σ 284) L (nxE (σ 284) L ((a + 1) + dgs (σ 284) L (a + 1) 1) 42) 1))) H := hP
            refine lv_if_eq (tgt := 220) hx hb dX11_isCommand_213 (by decide) (fun c_213 => ?_) (fun c_213 => ?_)
            · refine lv_iconst (v := 0) hx hb dX11_isCommand_220 (by decide) ?_
              exact eZ S hr hlocks hP hS (by decide) dX11_isCommand_221 (CmQ_f (j := 4) (kf_at (hn8 c_8) (by decide) c_54_112) (by decide) ((ps_p (hn8 c_8) c_54_112).1.trans (by simp only [c_195, c_204, c_213, ↓reduceIte])) ((ps_p (hn8 c_8) c_54_112).2.1.trans (by simp only [c_195, c_204, c_213, ↓reduceIte])) (CmP_at (CmP_t (CmP_at (CmP_at (CmP_t (CmP_w (CmP_at (CmP_0 ha)))))))))
            · refine lv_iconst (v := 1) hx hb dX11_isCommand_216 (by decide) ?_
              refine lv_goto (tgt := 221) hx hb dX11_isCommand_217 (by decide) ?_
              exact eZ S hr hlocks hP hS (by decide) dX11_isCommand_221 (CmQ_s (j := 4) (kf_at (hn8 c_8) (by decide) c_54_112) (by decide) ((ps_p (hn8 c_8) c_54_112).1.trans (by simp only [c_195, c_204, c_213, ↓reduceIte])) ((ps_p (hn8 c_8) c_54_112).2.1.trans (by simp only [c_195, c_204, c_213, ↓reduceIte])) (CmP_at (CmP_t (CmP_at (CmP_at (CmP_t (CmP_w (CmP_at (CmP_0 ha)))))))) (by simp only [sg_at]; simp; exact c_54_112) (fun i hi => by rw [(ps_p (hn8 c_8) c_54_112).2.2] at hi ⊢; rcases (show i = 0 ∨ i = 1 by simp only [List.length_cons, List.length_nil] at hi; omega) with rfl | rfl <;> (simp only [sg_at, sgd]; simp)))
      · refine lv_tableIn (off := 168) (tgt := 222) hx hb dX11_isCommand_54 (by rw [show σ 284 a = 98 from c_54_98]; decide) (by rw [show σ 284 a = 98 from c_54_98]; decide) (by rw [show σ 284 a = 98 from c_54_98]; rfl) (by decide) ?_
        refine lv_aload_n hx hb dX11_isCommand_222 rfl (lv_at hl 0 rfl) ?_
        refine lv_iconst (v := 0) hx hb dX11_isCommand_223 (by decide) ?_
        refine lv_iconst (v := 1) hx hb dX11_isCommand_224 (by decide) ?_
        refine cVie (As := [.int (nI 0), .int (nI 1)]) S G 276 (c_X11_digits l (D := D) (ct := ct) (ek := ek) (ad := ad) (N0 := N0) (X := X) (F := F) (sg (sg σ 276 12 (nI (a + 1))) 276 13 (σ 284 a)) 0 (by omega) 1 (by decide) (a + 1) (by first | exact sg_ss | (simp only [sg_at]; simp; done)) L (by simp only [sg_at]; simp [hL]) (show a + 1 ≤ L by omega) (by omega)) ok_yX11_digits ml_RX11_213 (by decide) oM rfl hP hS hl.1 rfl (by decide) rfl rfl (Nat.le_of_ble_eq_true rfl) ⟨Nat.zero_le _, Nat.zero_le _⟩ dX11_isCommand_225 (fun H locs hP hS => ?_)
        refine lv_tope (y := dgR (σ 284) L (a + 1) 1) rfl ?_
        replace hP : wP D ct ek ad X (sg (sg (sg (sg σ 276 12 (nI (a + 1))) 276 13 (σ 284 a)) 285 0 (dgV (σ 284) (a + 1) (dgs (σ 284) L (a + 1) 1))) 276 12 (nI ((a + 1) + dgs (σ 284) L (a + 1) 1))) H := hP
        refine lv_if_eq (tgt := 262) hx hb dX11_isCommand_228 (by decide) (fun c_228 => ?_) (fun c_228 => ?_)
        · refine lv_iconst (v := 0) hx hb dX11_isCommand_262 (by decide) ?_
          exact eZ S hr hlocks hP hS (by decide) dX11_isCommand_263 (CmQ_f (j := 5) (kf_at (hn8 c_8) (by decide) c_54_98) (by decide) ((ps_b (hn8 c_8) c_54_98).1.trans (by simp only [c_228, ↓reduceIte])) ((ps_b (hn8 c_8) c_54_98).2.1.trans (by simp only [c_228, ↓reduceIte])) (CmP_at (CmP_t (CmP_w (CmP_at (CmP_0 ha))))))
        · refine lv_aload_n hx hb dX11_isCommand_231 rfl (lv_at hl 0 rfl) ?_
          refine lv_iconst (v := 1) hx hb dX11_isCommand_232 (by decide) ?_
          refine lv_iconst (v := 1) hx hb dX11_isCommand_233 (by decide) ?_
          refine cVie (As := [.int (nI 1), .int (nI 1)]) S G 276 (c_X11_digits l (D := D) (ct := ct) (ek := ek) (ad := ad) (N0 := N0) (X := X) (F := F) (sg (sg (sg (sg σ 276 12 (nI (a + 1))) 276 13 (σ 284 a)) 285 0 (dgV (σ 284) (a + 1) (dgs (σ 284) L (a + 1) 1))) 276 12 (nI ((a + 1) + dgs (σ 284) L (a + 1) 1))) 1 (by omega) 1 (by decide) ((a + 1) + dgs (σ 284) L (a + 1) 1) (by first | exact sg_ss | (simp only [sg_at]; simp; done)) L (by simp only [sg_at]; simp [hL]) (dgs_le (show a + 1 ≤ L by omega) hL6 1) (by omega)) ok_yX11_digits ml_RX11_213 (by decide) oM rfl hP hS hl.1 rfl (by decide) rfl rfl (Nat.le_of_ble_eq_true rfl) ⟨Nat.zero_le _, Nat.zero_le _⟩ dX11_isCommand_234 (fun H locs hP hS => ?_)
          refine lv_tope (y := dgR (σ 284) L ((a + 1) + dgs (σ 284) L (a + 1) 1) 1) rfl ?_
          replace hP : wP D ct ek ad X (sg (sg (sg (sg (sg (sg σ 276 12 (nI (a + 1))) 276 13 (σ 284 a)) 285 0 (dgV (σ 284) (a + 1) (dgs (σ 284) L (a + 1) 1))) 276 12 (nI ((a + 1) + dgs (σ 284) L (a + 1) 1))) 285 1 (dgV (σ 284) ((a + 1) + dgs (σ 284) L (a + 1) 1) (dgs (σ 284) L ((a + 1) + dgs (σ 284) L (a + 1) 1) 1))) 276 12 (nI (((a + 1) + dgs (σ 284) L (a + 1) 1) + dgs (σ 284) L ((a + 1) + dgs (σ 284) L (a + 1) 1) 1))) H := hP
          refine lv_if_eq (tgt := 262) hx hb dX11_isCommand_237 (by decide) (fun c_237 => ?_) (fun c_237 => ?_)
          · refine lv_iconst (v := 0) hx hb dX11_isCommand_262 (by decide) ?_
            exact eZ S hr hlocks hP hS (by decide) dX11_isCommand_263 (CmQ_f (j := 5) (kf_at (hn8 c_8) (by decide) c_54_98) (by decide) ((ps_b (hn8 c_8) c_54_98).1.trans (by simp only [c_228, c_237, ↓reduceIte])) ((ps_b (hn8 c_8) c_54_98).2.1.trans (by simp only [c_228, c_237, ↓reduceIte])) (CmP_at (CmP_t (CmP_at (CmP_t (CmP_w (CmP_at (CmP_0 ha))))))))
          · refine lv_aload_n hx hb dX11_isCommand_240 rfl (lv_at hl 0 rfl) ?_
            refine lv_bipush (v := 60) hx hb dX11_isCommand_241 (by decide) ?_
            refine cVie (As := [.int 60]) S G 276 (c_X11_takes l (D := D) (ct := ct) (ek := ek) (ad := ad) (N0 := N0) (X := X) (F := F) (sg (sg (sg (sg (sg (sg σ 276 12 (nI (a + 1))) 276 13 (σ 284 a)) 285 0 (dgV (σ 284) (a + 1) (dgs (σ 284) L (a + 1) 1))) 276 12 (nI ((a + 1) + dgs (σ 284) L (a + 1) 1))) 285 1 (dgV (σ 284) ((a + 1) + dgs (σ 284) L (a + 1) 1) (dgs (σ 284) L ((a + 1) + dgs (σ 284) L (a + 1) 1) 1))) 276 12 (nI (((a + 1) + dgs (σ 284) L (a + 1) 1) + dgs (σ 284) L ((a + 1) + dgs (σ 284) L (a + 1) 1) 1))) 60 (((a + 1) + dgs (σ 284) L (a + 1) 1) + dgs (σ 284) L ((a + 1) + dgs (σ 284) L (a + 1) 1) 1) sg_ss L (by simp only [sg_at]; simp [hL]) (dgs_le (dgs_le (show a + 1 ≤ L by omega) hL6 1) hL6 1) (by omega)) ok_yX11_takes ml_RX11_209 (by decide) oM rfl hP hS hl.1 rfl (by decide) rfl rfl (Nat.le_of_ble_eq_true rfl) ⟨Nat.zero_le _, Nat.zero_le _⟩ dX11_isCommand_243 (fun H locs hP hS => ?_)
            refine lv_tope (y := nxV (σ 284) L (((a + 1) + dgs (σ 284) L (a + 1) 1) + dgs (σ 284) L ((a + 1) + dgs (σ 284) L (a + 1) 1) 1) 60) rfl ?_
            replace hP : wP D ct ek ad X (sg (sg (sg (sg (sg (sg (sg σ 276 12 (nI (a + 1))) 276 13 (σ 284 a)) 285 0 (dgV (σ 284) (a + 1) (dgs (σ 284) L (a + 1) 1))) 276 12 (nI ((a + 1) + dgs (σ 284) L (a + 1) 1))) 285 1 (dgV (σ 284) ((a + 1) + dgs (σ 284) L (a + 1) 1) (dgs (σ 284) L ((a + 1) + dgs (σ 284) L (a + 1) 1) 1))) 276 12 (nI (((a + 1) + dgs (σ 284) L (a + 1) 1) + dgs (σ 284) L ((a + 1) + dgs (σ 284) L (a + 1) 1) 1))) 276 12 (nI (nxE (σ 284) L (((a + 1) + dgs (σ 284) L (a + 1) 1) + dgs (σ 284) L ((a + 1) + dgs (σ 284) L (a + 1) 1) 1) 60))) H := hP
            refine lv_if_eq (tgt := 262) hx hb dX11_isCommand_246 (by decide) (fun c_246 => ?_) (fun c_246 => ?_)
            · refine lv_iconst (v := 0) hx hb dX11_isCommand_262 (by decide) ?_
              exact eZ S hr hlocks hP hS (by decide) dX11_isCommand_263 (CmQ_f (j := 5) (kf_at (hn8 c_8) (by decide) c_54_98) (by decide) ((ps_b (hn8 c_8) c_54_98).1.trans (by simp only [c_228, c_237, c_246, ↓reduceIte])) ((ps_b (hn8 c_8) c_54_98).2.1.trans (by simp only [c_228, c_237, c_246, ↓reduceIte])) (CmP_at (CmP_at (CmP_t (CmP_at (CmP_t (CmP_w (CmP_at (CmP_0 ha)))))))))
            · refine lv_aload_n hx hb dX11_isCommand_249 rfl (lv_at hl 0 rfl) ?_
              refine lv_iconst (v := 2) hx hb dX11_isCommand_250 (by decide) ?_
              refine lv_iconst (v := 2) hx hb dX11_isCommand_251 (by decide) ?_
              refine cVie (As := [.int (nI 2), .int (nI 2)]) S G 276 (c_X11_digits l (D := D) (ct := ct) (ek := ek) (ad := ad) (N0 := N0) (X := X) (F := F) (sg (sg (sg (sg (sg (sg (sg σ 276 12 (nI (a + 1))) 276 13 (σ 284 a)) 285 0 (dgV (σ 284) (a + 1) (dgs (σ 284) L (a + 1) 1))) 276 12 (nI ((a + 1) + dgs (σ 284) L (a + 1) 1))) 285 1 (dgV (σ 284) ((a + 1) + dgs (σ 284) L (a + 1) 1) (dgs (σ 284) L ((a + 1) + dgs (σ 284) L (a + 1) 1) 1))) 276 12 (nI (((a + 1) + dgs (σ 284) L (a + 1) 1) + dgs (σ 284) L ((a + 1) + dgs (σ 284) L (a + 1) 1) 1))) 276 12 (nI (nxE (σ 284) L (((a + 1) + dgs (σ 284) L (a + 1) 1) + dgs (σ 284) L ((a + 1) + dgs (σ 284) L (a + 1) 1) 1) 60))) 2 (by omega) 2 (by decide) (nxE (σ 284) L (((a + 1) + dgs (σ 284) L (a + 1) 1) + dgs (σ 284) L ((a + 1) + dgs (σ 284) L (a + 1) 1) 1) 60) (by first | exact sg_ss | (simp only [sg_at]; simp; done)) L (by simp only [sg_at]; simp [hL]) ((nx_le (dgs_le (dgs_le (show a + 1 ≤ L by omega) hL6 1) hL6 1) hL6).2) (by omega)) ok_yX11_digits ml_RX11_213 (by decide) oM rfl hP hS hl.1 rfl (by decide) rfl rfl (Nat.le_of_ble_eq_true rfl) ⟨Nat.zero_le _, Nat.zero_le _⟩ dX11_isCommand_252 (fun H locs hP hS => ?_)
              refine lv_tope (y := dgR (σ 284) L (nxE (σ 284) L (((a + 1) + dgs (σ 284) L (a + 1) 1) + dgs (σ 284) L ((a + 1) + dgs (σ 284) L (a + 1) 1) 1) 60) 2) rfl ?_
              replace hP : wP D ct ek ad X (sg (sg (sg (sg (sg (sg (sg (sg (sg σ 276 12 (nI (a + 1))) 276 13 (σ 284 a)) 285 0 (dgV (σ 284) (a + 1) (dgs (σ 284) L (a + 1) 1))) 276 12 (nI ((a + 1) + dgs (σ 284) L (a + 1) 1))) 285 1 (dgV (σ 284) ((a + 1) + dgs (σ 284) L (a + 1) 1) (dgs (σ 284) L ((a + 1) + dgs (σ 284) L (a + 1) 1) 1))) 276 12 (nI (((a + 1) + dgs (σ 284) L (a + 1) 1) + dgs (σ 284) L ((a + 1) + dgs (σ 284) L (a + 1) 1) 1))) 276 12 (nI (nxE (σ 284) L (((a + 1) + dgs (σ 284) L (a + 1) 1) + dgs (σ 284) L ((a + 1) + dgs (σ 284) L (a + 1) 1) 1) 60))) 285 2 (dgV (σ 284) (nxE (σ 284) L (((a + 1) + dgs (σ 284) L (a + 1) 1) + dgs (σ 284) L ((a + 1) + dgs (σ 284) L (a + 1) 1) 1) 60) (dgs (σ 284) L (nxE (σ 284) L (((a + 1) + dgs (σ 284) L (a + 1) 1) + dgs (σ 284) L ((a + 1) + dgs (σ 284) L (a + 1) 1) 1) 60) 2))) 276 12 (nI ((nxE (σ 284) L (((a + 1) + dgs (σ 284) L (a + 1) 1) + dgs (σ 284) L ((a + 1) + dgs (σ 284) L (a + 1) 1) 1) 60) + dgs (σ 284) L (nxE (σ 284) L (((a + 1) + dgs (σ 284) L (a + 1) 1) + dgs (σ 284) L ((a + 1) + dgs (σ 284) L (a + 1) 1) 1) 60) 2))) H := hP
              refine lv_if_eq (tgt := 262) hx hb dX11_isCommand_255 (by decide) (fun c_255 => ?_) (fun c_255 => ?_)
              · refine lv_iconst (v := 0) hx hb dX11_isCommand_262 (by decide) ?_
                exact eZ S hr hlocks hP hS (by decide) dX11_isCommand_263 (CmQ_f (j := 5) (kf_at (hn8 c_8) (by decide) c_54_98) (by decide) ((ps_b (hn8 c_8) c_54_98).1.trans (by simp only [c_228, c_237, c_246, c_255, ↓reduceIte])) ((ps_b (hn8 c_8) c_54_98).2.1.trans (by simp only [c_228, c_237, c_246, c_255, ↓reduceIte])) (CmP_at (CmP_t (CmP_at (CmP_at (CmP_t (CmP_at (CmP_t (CmP_w (CmP_at (CmP_0 ha)))))))))))
              · refine lv_iconst (v := 1) hx hb dX11_isCommand_258 (by decide) ?_
                refine lv_goto (tgt := 263) hx hb dX11_isCommand_259 (by decide) ?_
                exact eZ S hr hlocks hP hS (by decide) dX11_isCommand_263 (CmQ_s (j := 5) (kf_at (hn8 c_8) (by decide) c_54_98) (by decide) ((ps_b (hn8 c_8) c_54_98).1.trans (by simp only [c_228, c_237, c_246, c_255, ↓reduceIte])) ((ps_b (hn8 c_8) c_54_98).2.1.trans (by simp only [c_228, c_237, c_246, c_255, ↓reduceIte])) (CmP_at (CmP_t (CmP_at (CmP_at (CmP_t (CmP_at (CmP_t (CmP_w (CmP_at (CmP_0 ha)))))))))) (by simp only [sg_at]; simp; exact c_54_98) (fun i hi => by rw [(ps_b (hn8 c_8) c_54_98).2.2] at hi ⊢; rcases (show i = 0 ∨ i = 1 ∨ i = 2 by simp only [List.length_cons, List.length_nil] at hi; omega) with rfl | rfl | rfl <;> (simp only [sg_at, sgd]; simp)))
      · refine lv_tableOut (tgt := 297) hx hb dX11_isCommand_54 (by rw [show σ 284 a = 120 from c_54_120]; decide) (by decide) ?_
        refine lv_aload_n hx hb dX11_isCommand_297 rfl (lv_at hl 0 rfl) ?_
        refine lv_iconst (v := 0) hx hb dX11_isCommand_298 (by decide) ?_
        refine lv_iconst (v := 1) hx hb dX11_isCommand_299 (by decide) ?_
        refine cVie (As := [.int (nI 0), .int (nI 1)]) S G 276 (c_X11_digits l (D := D) (ct := ct) (ek := ek) (ad := ad) (N0 := N0) (X := X) (F := F) (sg (sg σ 276 12 (nI (a + 1))) 276 13 (σ 284 a)) 0 (by omega) 1 (by decide) (a + 1) (by first | exact sg_ss | (simp only [sg_at]; simp; done)) L (by simp only [sg_at]; simp [hL]) (show a + 1 ≤ L by omega) (by omega)) ok_yX11_digits ml_RX11_213 (by decide) oM rfl hP hS hl.1 rfl (by decide) rfl rfl (Nat.le_of_ble_eq_true rfl) ⟨Nat.zero_le _, Nat.zero_le _⟩ dX11_isCommand_300 (fun H locs hP hS => ?_)
        refine lv_tope (y := dgR (σ 284) L (a + 1) 1) rfl ?_
        replace hP : wP D ct ek ad X (sg (sg (sg (sg σ 276 12 (nI (a + 1))) 276 13 (σ 284 a)) 285 0 (dgV (σ 284) (a + 1) (dgs (σ 284) L (a + 1) 1))) 276 12 (nI ((a + 1) + dgs (σ 284) L (a + 1) 1))) H := hP
        refine eZ S hr hlocks hP hS (by unfold dgR; split <;> rfl) dX11_isCommand_303 ?_
        by_cases g : dgR (σ 284) L (a + 1) 1 = 0
        · rw [g]
          exact CmQ_f (j := 6) (kf_at (hn8 c_8) (by decide) c_54_120) (by decide) ((ps_x (hn8 c_8) c_54_120).1.trans (if_pos g)) ((ps_x (hn8 c_8) c_54_120).2.1.trans (if_pos g)) (CmP_at (CmP_t (CmP_w (CmP_at (CmP_0 ha)))))
        · rw [show dgR (σ 284) L (a + 1) 1 = 1 from dgR_b g]
          exact CmQ_s (j := 6) (kf_at (hn8 c_8) (by decide) c_54_120) (by decide) ((ps_x (hn8 c_8) c_54_120).1.trans (if_neg g)) ((ps_x (hn8 c_8) c_54_120).2.1.trans (if_neg g)) (CmP_at (CmP_t (CmP_w (CmP_at (CmP_0 ha))))) (by simp only [sg_at]; simp; exact c_54_120) (fun i hi => by rw [(ps_x (hn8 c_8) c_54_120).2.2] at hi ⊢; rcases (show i = 0 by simp only [List.length_cons, List.length_nil] at hi; omega) with rfl; simp only [sg_at, sgd]; simp)
      · refine lv_tableIn (off := 210) (tgt := 264) hx hb dX11_isCommand_54 (by rw [show σ 284 a = 104 from c_54_104]; decide) (by rw [show σ 284 a = 104 from c_54_104]; decide) (by rw [show σ 284 a = 104 from c_54_104]; rfl) (by decide) ?_
        refine lv_aload_n hx hb dX11_isCommand_264 rfl (lv_at hl 0 rfl) ?_
        refine lv_iconst (v := 0) hx hb dX11_isCommand_265 (by decide) ?_
        refine lv_iconst (v := 1) hx hb dX11_isCommand_266 (by decide) ?_
        refine cVie (As := [.int (nI 0), .int (nI 1)]) S G 276 (c_X11_digits l (D := D) (ct := ct) (ek := ek) (ad := ad) (N0 := N0) (X := X) (F := F) (sg (sg σ 276 12 (nI (a + 1))) 276 13 (σ 284 a)) 0 (by omega) 1 (by decide) (a + 1) (by first | exact sg_ss | (simp only [sg_at]; simp; done)) L (by simp only [sg_at]; simp [hL]) (show a + 1 ≤ L by omega) (by omega)) ok_yX11_digits ml_RX11_213 (by decide) oM rfl hP hS hl.1 rfl (by decide) rfl rfl (Nat.le_of_ble_eq_true rfl) ⟨Nat.zero_le _, Nat.zero_le _⟩ dX11_isCommand_267 (fun H locs hP hS => ?_)
        refine lv_tope (y := dgR (σ 284) L (a + 1) 1) rfl ?_
        replace hP : wP D ct ek ad X (sg (sg (sg (sg σ 276 12 (nI (a + 1))) 276 13 (σ 284 a)) 285 0 (dgV (σ 284) (a + 1) (dgs (σ 284) L (a + 1) 1))) 276 12 (nI ((a + 1) + dgs (σ 284) L (a + 1) 1))) H := hP
        refine lv_if_eq (tgt := 295) hx hb dX11_isCommand_270 (by decide) (fun c_270 => ?_) (fun c_270 => ?_)
        · refine lv_iconst (v := 0) hx hb dX11_isCommand_295 (by decide) ?_
          exact eZ S hr hlocks hP hS (by decide) dX11_isCommand_296 (CmQ_f (j := 7) (kf_at (hn8 c_8) (by decide) c_54_104) (by decide) ((ps_h (hn8 c_8) c_54_104).1.trans (by simp only [c_270, ↓reduceIte])) ((ps_h (hn8 c_8) c_54_104).2.1.trans (by simp only [c_270, ↓reduceIte])) (CmP_at (CmP_t (CmP_w (CmP_at (CmP_0 ha))))))
        · refine lv_aload_n hx hb dX11_isCommand_273 rfl (lv_at hl 0 rfl) ?_
          refine lv_bipush (v := 61) hx hb dX11_isCommand_274 (by decide) ?_
          refine cVie (As := [.int 61]) S G 276 (c_X11_takes l (D := D) (ct := ct) (ek := ek) (ad := ad) (N0 := N0) (X := X) (F := F) (sg (sg (sg (sg σ 276 12 (nI (a + 1))) 276 13 (σ 284 a)) 285 0 (dgV (σ 284) (a + 1) (dgs (σ 284) L (a + 1) 1))) 276 12 (nI ((a + 1) + dgs (σ 284) L (a + 1) 1))) 61 ((a + 1) + dgs (σ 284) L (a + 1) 1) sg_ss L (by simp only [sg_at]; simp [hL]) (dgs_le (show a + 1 ≤ L by omega) hL6 1) (by omega)) ok_yX11_takes ml_RX11_209 (by decide) oM rfl hP hS hl.1 rfl (by decide) rfl rfl (Nat.le_of_ble_eq_true rfl) ⟨Nat.zero_le _, Nat.zero_le _⟩ dX11_isCommand_276 (fun H locs hP hS => ?_)
          refine lv_tope (y := nxV (σ 284) L ((a + 1) + dgs (σ 284) L (a + 1) 1) 61) rfl ?_
          replace hP : wP D ct ek ad X (sg (sg (sg (sg (sg σ 276 12 (nI (a + 1))) 276 13 (σ 284 a)) 285 0 (dgV (σ 284) (a + 1) (dgs (σ 284) L (a + 1) 1))) 276 12 (nI ((a + 1) + dgs (σ 284) L (a + 1) 1))) 276 12 (nI (nxE (σ 284) L ((a + 1) + dgs (σ 284) L (a + 1) 1) 61))) H := hP
          refine lv_if_eq (tgt := 295) hx hb dX11_isCommand_279 (by decide) (fun c_279 => ?_) (fun c_279 => ?_)
          · refine lv_iconst (v := 0) hx hb dX11_isCommand_295 (by decide) ?_
            exact eZ S hr hlocks hP hS (by decide) dX11_isCommand_296 (CmQ_f (j := 7) (kf_at (hn8 c_8) (by decide) c_54_104) (by decide) ((ps_h (hn8 c_8) c_54_104).1.trans (by simp only [c_270, c_279, ↓reduceIte])) ((ps_h (hn8 c_8) c_54_104).2.1.trans (by simp only [c_270, c_279, ↓reduceIte])) (CmP_at (CmP_at (CmP_t (CmP_w (CmP_at (CmP_0 ha)))))))
          · refine lv_aload_n hx hb dX11_isCommand_282 rfl (lv_at hl 0 rfl) ?_
            refine lv_iconst (v := 1) hx hb dX11_isCommand_283 (by decide) ?_
            refine lv_iconst (v := 1) hx hb dX11_isCommand_284 (by decide) ?_
            refine cVie (As := [.int (nI 1), .int (nI 1)]) S G 276 (c_X11_digits l (D := D) (ct := ct) (ek := ek) (ad := ad) (N0 := N0) (X := X) (F := F) (sg (sg (sg (sg (sg σ 276 12 (nI (a + 1))) 276 13 (σ 284 a)) 285 0 (dgV (σ 284) (a + 1) (dgs (σ 284) L (a + 1) 1))) 276 12 (nI ((a + 1) + dgs (σ 284) L (a + 1) 1))) 276 12 (nI (nxE (σ 284) L ((a + 1) + dgs (σ 284) L (a + 1) 1) 61))) 1 (by omega) 1 (by decide) (nxE (σ 284) L ((a + 1) + dgs (σ 284) L (a + 1) 1) 61) (by first | exact sg_ss | (simp only [sg_at]; simp; done)) L (by simp only [sg_at]; simp [hL]) ((nx_le (dgs_le (show a + 1 ≤ L by omega) hL6 1) hL6).2) (by omega)) ok_yX11_digits ml_RX11_213 (by decide) oM rfl hP hS hl.1 rfl (by decide) rfl rfl (Nat.le_of_ble_eq_true rfl) ⟨Nat.zero_le _, Nat.zero_le _⟩ dX11_isCommand_285 (fun H locs hP hS => ?_)
            refine lv_tope (y := dgR (σ 284) L (nxE (σ 284) L ((a + 1) + dgs (σ 284) L (a + 1) 1) 61) 1) rfl ?_
            replace hP : wP D ct ek ad X (sg (sg (sg (sg (sg (sg (sg σ 276 12 (nI (a + 1))) 276 13 (σ 284 a)) 285 0 (dgV (σ 284) (a + 1) (dgs (σ 284) L (a + 1) 1))) 276 12 (nI ((a + 1) + dgs (σ 284) L (a + 1) 1))) 276 12 (nI (nxE (σ 284) L ((a + 1) + dgs (σ 284) L (a + 1) 1) 61))) 285 1 (dgV (σ 284) (nxE (σ 284) L ((a + 1) + dgs (σ 284) L (a + 1) 1) 61) (dgs (σ 284) L (nxE (σ 284) L ((a + 1) + dgs (σ 284) L (a + 1) 1) 61) 1))) 276 12 (nI ((nxE (σ 284) L ((a + 1) + dgs (σ 284) L (a + 1) 1) 61) + dgs (σ 284) L (nxE (σ 284) L ((a + 1) + dgs (σ 284) L (a + 1) 1) 61) 1))) H := hP
            refine lv_if_eq (tgt := 295) hx hb dX11_isCommand_288 (by decide) (fun c_288 => ?_) (fun c_288 => ?_)
            · refine lv_iconst (v := 0) hx hb dX11_isCommand_295 (by decide) ?_
              exact eZ S hr hlocks hP hS (by decide) dX11_isCommand_296 (CmQ_f (j := 7) (kf_at (hn8 c_8) (by decide) c_54_104) (by decide) ((ps_h (hn8 c_8) c_54_104).1.trans (by simp only [c_270, c_279, c_288, ↓reduceIte])) ((ps_h (hn8 c_8) c_54_104).2.1.trans (by simp only [c_270, c_279, c_288, ↓reduceIte])) (CmP_at (CmP_t (CmP_at (CmP_at (CmP_t (CmP_w (CmP_at (CmP_0 ha)))))))))
            · refine lv_iconst (v := 1) hx hb dX11_isCommand_291 (by decide) ?_
              refine lv_goto (tgt := 296) hx hb dX11_isCommand_292 (by decide) ?_
              exact eZ S hr hlocks hP hS (by decide) dX11_isCommand_296 (CmQ_s (j := 7) (kf_at (hn8 c_8) (by decide) c_54_104) (by decide) ((ps_h (hn8 c_8) c_54_104).1.trans (by simp only [c_270, c_279, c_288, ↓reduceIte])) ((ps_h (hn8 c_8) c_54_104).2.1.trans (by simp only [c_270, c_279, c_288, ↓reduceIte])) (CmP_at (CmP_t (CmP_at (CmP_at (CmP_t (CmP_w (CmP_at (CmP_0 ha)))))))) (by simp only [sg_at]; simp; exact c_54_104) (fun i hi => by rw [(ps_h (hn8 c_8) c_54_104).2.2] at hi ⊢; rcases (show i = 0 ∨ i = 1 by simp only [List.length_cons, List.length_nil] at hi; omega) with rfl | rfl <;> (simp only [sg_at, sgd]; simp)))
    · refine lv_iconst (v := 0) hx hb dX11_isCommand_28 (by decide) ?_
      exact eZ S hr hlocks hP hS (by decide) dX11_isCommand_29 (CmQ_n (kf_no (Or.inr (ixV_no c_25))) (CmP_0 ha))

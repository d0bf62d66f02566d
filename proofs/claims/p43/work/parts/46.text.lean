/-! the class: its text (laid by wip/p43/spec_text.py) -/
theorem ok_yX9_isFull : COK RX9 yX9_isFull cX9_isFull 1 (some .boolean) 0 := ⟨im_yX9_isFull, se_RX9_yX9_isFull, in_RX9, co_yX9_isFull, ⟨rfl, by decide +kernel, by decide +kernel, by decide +kernel⟩, by decide⟩
set_option maxHeartbeats 1000000 in
set_option maxRecDepth 100000 in
theorem c_X9_isFull (l : Launch) {D : va_G} {ct : Nat → ClassId} {ek ad : Nat → Nat} {N0 : Nat} {X : va_W} {F : State → Prop} (σ : Mem) : MI l yX9_isFull cX9_isFull 1 (some .boolean) 0 D ct ek ad N0 X F [.ref (ad 239)] σ (fun r τ => r = (if σ 239 3 < 60 then 0 else 1) ∧ τ = σ) := by
  refine ms0 (own := RX9) (by decide) rfl (Nat.le_of_ble_eq_true rfl) (fun p e s m args below meth c S hr hlocks hnm G hP hS ls hl => ?_)
  have hx := S.1
  have hb := S.2.1
  replace hl : lv_has ls 1 [(0, .ref (ad 239))] := hl
  refine lv_aload_n hx hb dX9_isFull_0 rfl (lv_at hl 0 rfl) ?_
  refine gf S G hP 239 3 (by decide) oTX rfl inX9 (by decide) fl_RX9_24 rfl rfl dX9_isFull_1 ?_
  refine lv_bipush (v := 60) hx hb dX9_isFull_4 (by decide) ?_
  refine lv_icmp_lt (tgt := 13) hx hb dX9_isFull_6 (by decide) (fun c_6 => ?_) (fun c_6 => ?_)
  · refine lv_iconst (v := 0) hx hb dX9_isFull_13 (by decide) ?_
    exact eZ S hr hlocks hP hS (by decide) dX9_isFull_14 (by first | exact ⟨rfl, rfl⟩ | (refine ⟨?_, rfl⟩; simp [c_6]; done) | (simp [c_6]; done) | (simp only [c_6, ↓reduceIte, if_true, if_false, and_self, true_and]; done) | grind [])
  · refine lv_iconst (v := 1) hx hb dX9_isFull_9 (by decide) ?_
    refine lv_goto (tgt := 14) hx hb dX9_isFull_10 (by decide) ?_
    exact eZ S hr hlocks hP hS (by decide) dX9_isFull_14 (by first | exact ⟨rfl, rfl⟩ | (refine ⟨?_, rfl⟩; simp [c_6]; done) | (simp [c_6]; done) | (simp only [c_6, ↓reduceIte, if_true, if_false, and_self, true_and]; done) | grind [])

theorem ok_yX9_add : COK RX9 yX9_add cX9_add 2 (some .int) 1 := ⟨im_yX9_add, se_RX9_yX9_add, in_RX9, co_yX9_add, ⟨rfl, by decide +kernel, by decide +kernel, by decide +kernel⟩, by decide⟩
set_option maxHeartbeats 1000000 in
set_option maxRecDepth 100000 in
theorem c_X9_add (l : Launch) {D : va_G} {ct : Nat → ClassId} {ek ad : Nat → Nat} {N0 : Nat} {X : va_W} {F : State → Prop} (σ : Mem) (ch : Int32) (hc9 : vp_nar .char ch = ch) (L : Nat) (hL : σ 239 3 = nI L) (hL1 : L < 60) : MI l yX9_add cX9_add 2 (some .int) 0 D ct ek ad N0 X F [.ref (ad 239), .int ch] σ (fun r τ => r = nI (L + 1) ∧ τ = sg (sg σ 240 L ch) 239 3 (nI (L + 1))) := by
  refine ms0 (own := RX9) (by decide) rfl (Nat.le_of_ble_eq_true rfl) (fun p e s m args below meth c S hr hlocks hnm G hP hS ls hl => ?_)
  have hx := S.1
  have hb := S.2.1
  replace hl : lv_has ls 2 [(0, .ref (ad 239)), (1, .int ch)] := hl
  refine lv_aload_n hx hb dX9_add_0 rfl (lv_at hl 0 rfl) ?_
  refine gf S G hP 239 0 (by decide) oTX rfl inX9 (by decide) fl_RX9_9 rfl rfl dX9_add_1 ?_
  refine lv_aload_n hx hb dX9_add_4 rfl (lv_at hl 0 rfl) ?_
  refine gf S G hP 239 3 (by decide) oTX rfl inX9 (by decide) fl_RX9_24 rfl rfl dX9_add_5 ?_
  refine lv_iload_n hx hb dX9_add_8 rfl (lv_at hl 1 rfl) ?_
  refine cst S G hP hS 240 L (by decide) aTXc hL (by omega) (by decide) hc9 dX9_add_9 (fun H locs hP hS => ?_)
  refine lv_aload_n hx hb dX9_add_10 rfl (lv_at hl 0 rfl) ?_
  refine lv_dup hx hb dX9_add_11 rfl ?_
  refine gf S G hP 239 3 (by decide) oTX rfl inX9 (by decide) fl_RX9_24 rfl rfl dX9_add_12 ?_
  refine lv_tope (y := nI L) (by simp only [sg_at]; simp [hL]) ?_
  refine lv_iconst (v := 1) hx hb dX9_add_15 (by decide) ?_
  refine nadd hx hb L 1 dX9_add_16 rfl (by decide) ?_
  refine pf S G hP hS 239 3 (x := nI (L + 1)) tyX9 tyX9_ok nmX9 (by decide) oTX rfl inX9 (by decide) fl_RX9_24 rfl rfl rfl rfl (Nat.le_of_ble_eq_true rfl) oTX dX9_add_17 (fun H locs hP hS => ?_)
  refine lv_aload_n hx hb dX9_add_20 rfl (lv_at hl 0 rfl) ?_
  refine gf S G hP 239 3 (by decide) oTX rfl inX9 (by decide) fl_RX9_24 rfl rfl dX9_add_21 ?_
  refine lv_tope (y := nI (L + 1)) (by rw [sg_ss]) ?_
  exact eI S hr hlocks hP hS dX9_add_24 (by first | exact ⟨rfl, rfl⟩ | (refine ⟨?_, rfl⟩; simp []; done) | (simp []; done) | (simp only [↓reduceIte, if_true, if_false, and_self, true_and]; done) | grind [])

theorem ok_yX9_clear : COK RX9 yX9_clear cX9_clear 1 none 0 := ⟨im_yX9_clear, se_RX9_yX9_clear, in_RX9, co_yX9_clear, ⟨rfl, by decide +kernel, by decide +kernel, by decide +kernel⟩, by decide⟩
set_option maxHeartbeats 1000000 in
set_option maxRecDepth 100000 in
theorem c_X9_clear (l : Launch) {D : va_G} {ct : Nat → ClassId} {ek ad : Nat → Nat} {N0 : Nat} {X : va_W} {F : State → Prop} (σ : Mem) : MV l yX9_clear cX9_clear 1 0 D ct ek ad N0 X F [.ref (ad 239)] σ (fun τ => τ = sg σ 239 3 0) := by
  refine ms0 (own := RX9) (by decide) rfl (Nat.le_of_ble_eq_true rfl) (fun p e s m args below meth c S hr hlocks hnm G hP hS ls hl => ?_)
  have hx := S.1
  have hb := S.2.1
  replace hl : lv_has ls 1 [(0, .ref (ad 239))] := hl
  refine lv_aload_n hx hb dX9_clear_0 rfl (lv_at hl 0 rfl) ?_
  refine lv_iconst (v := 0) hx hb dX9_clear_1 (by decide) ?_
  refine pf S G hP hS 239 3 (x := 0) tyX9 tyX9_ok nmX9 (by decide) oTX rfl inX9 (by decide) fl_RX9_24 rfl rfl rfl rfl (Nat.le_of_ble_eq_true rfl) oTX dX9_clear_2 (fun H locs hP hS => ?_)
  exact eV S hr hlocks hP hS dX9_clear_5 (by first | rfl | (simp []; done) | (simp only [↓reduceIte, if_true, if_false]; done) | grind [])

theorem ok_yX9_isNext : COK RX9 yX9_isNext cX9_isNext 2 (some .boolean) 1 := ⟨im_yX9_isNext, se_RX9_yX9_isNext, in_RX9, co_yX9_isNext, ⟨rfl, by decide +kernel, by decide +kernel, by decide +kernel⟩, by decide⟩
set_option maxHeartbeats 1000000 in
set_option maxRecDepth 100000 in
theorem c_X9_isNext (l : Launch) {D : va_G} {ct : Nat → ClassId} {ek ad : Nat → Nat} {N0 : Nat} {X : va_W} {F : State → Prop} (σ : Mem) (ch : Int32) (a : Nat) (ha : σ 239 6 = nI a) (L : Nat) (hL : σ 239 3 = nI L) (haL : a ≤ L) (hL6 : L ≤ 60) : MI l yX9_isNext cX9_isNext 2 (some .boolean) 0 D ct ek ad N0 X F [.ref (ad 239), .int ch] σ (fun r τ => r = nxV (σ 240) L a ch ∧ τ = σ) := by
  refine ms0 (own := RX9) (by decide) rfl (Nat.le_of_ble_eq_true rfl) (fun p e s m args below meth c S hr hlocks hnm G hP hS ls hl => ?_)
  have hx := S.1
  have hb := S.2.1
  replace hl : lv_has ls 2 [(0, .ref (ad 239)), (1, .int ch)] := hl
  refine lv_aload_n hx hb dX9_isNext_0 rfl (lv_at hl 0 rfl) ?_
  refine gf S G hP 239 6 (by decide) oTX rfl inX9 (by decide) fl_RX9_28 rfl rfl dX9_isNext_1 ?_
  refine lv_tope (y := nI a) ha ?_
  refine lv_aload_n hx hb dX9_isNext_4 rfl (lv_at hl 0 rfl) ?_
  refine gf S G hP 239 3 (by decide) oTX rfl inX9 (by decide) fl_RX9_24 rfl rfl dX9_isNext_5 ?_
  refine lv_tope (y := nI L) hL ?_
  refine lv_icmp_ge (tgt := 28) hx hb dX9_isNext_8 (by decide) (fun c_8 => ?_) (fun c_8 => ?_)
  · refine lv_iconst (v := 0) hx hb dX9_isNext_28 (by decide) ?_
    exact eZ S hr hlocks hP hS (by decide) dX9_isNext_29 ⟨(nx_a (T := σ 240) c_8).symm, rfl⟩
  · have hlt : a < L := by have : ¬ L ≤ a := fun z => c_8 (nI_le z (by omega)); omega
    refine lv_aload_n hx hb dX9_isNext_11 rfl (lv_at hl 0 rfl) ?_
    refine gf S G hP 239 0 (by decide) oTX rfl inX9 (by decide) fl_RX9_9 rfl rfl dX9_isNext_12 ?_
    refine lv_aload_n hx hb dX9_isNext_15 rfl (lv_at hl 0 rfl) ?_
    refine gf S G hP 239 6 (by decide) oTX rfl inX9 (by decide) fl_RX9_28 rfl rfl dX9_isNext_16 ?_
    refine lv_tope (y := nI a) ha ?_
    refine cld S G hP 240 a (by decide) (aTXc _) rfl (by omega) (by decide) dX9_isNext_19 ?_
    refine lv_iload_n hx hb dX9_isNext_20 rfl (lv_at hl 1 rfl) ?_
    refine lv_icmp_ne (tgt := 28) hx hb dX9_isNext_21 (by decide) (fun c_21 => ?_) (fun c_21 => ?_)
    · refine lv_iconst (v := 0) hx hb dX9_isNext_28 (by decide) ?_
      exact eZ S hr hlocks hP hS (by decide) dX9_isNext_29 ⟨(nx_b (T := σ 240) c_8 c_21).symm, rfl⟩
    · refine lv_iconst (v := 1) hx hb dX9_isNext_24 (by decide) ?_
      refine lv_goto (tgt := 29) hx hb dX9_isNext_25 (by decide) ?_
      exact eZ S hr hlocks hP hS (by decide) dX9_isNext_29 ⟨(nx_c (T := σ 240) c_8 c_21).symm, rfl⟩

theorem ok_yX9_isDigitNext : COK RX9 yX9_isDigitNext cX9_isDigitNext 1 (some .boolean) 0 := ⟨im_yX9_isDigitNext, se_RX9_yX9_isDigitNext, in_RX9, co_yX9_isDigitNext, ⟨rfl, by decide +kernel, by decide +kernel, by decide +kernel⟩, by decide⟩
set_option maxHeartbeats 1000000 in
set_option maxRecDepth 100000 in
theorem c_X9_isDigitNext (l : Launch) {D : va_G} {ct : Nat → ClassId} {ek ad : Nat → Nat} {N0 : Nat} {X : va_W} {F : State → Prop} (σ : Mem) (a : Nat) (ha : σ 239 6 = nI a) (L : Nat) (hL : σ 239 3 = nI L) (haL : a ≤ L) (hL6 : L ≤ 60) : MI l yX9_isDigitNext cX9_isDigitNext 1 (some .boolean) 0 D ct ek ad N0 X F [.ref (ad 239)] σ (fun r τ => r = dgC (σ 240) L a ∧ τ = σ) := by
  refine ms0 (own := RX9) (by decide) rfl (Nat.le_of_ble_eq_true rfl) (fun p e s m args below meth c S hr hlocks hnm G hP hS ls hl => ?_)
  have hx := S.1
  have hb := S.2.1
  replace hl : lv_has ls 1 [(0, .ref (ad 239))] := hl
  refine lv_aload_n hx hb dX9_isDigitNext_0 rfl (lv_at hl 0 rfl) ?_
  refine gf S G hP 239 6 (by decide) oTX rfl inX9 (by decide) fl_RX9_28 rfl rfl dX9_isDigitNext_1 ?_
  refine lv_tope (y := nI a) ha ?_
  refine lv_aload_n hx hb dX9_isDigitNext_4 rfl (lv_at hl 0 rfl) ?_
  refine gf S G hP 239 3 (by decide) oTX rfl inX9 (by decide) fl_RX9_24 rfl rfl dX9_isDigitNext_5 ?_
  refine lv_tope (y := nI L) hL ?_
  refine lv_icmp_ge (tgt := 43) hx hb dX9_isDigitNext_8 (by decide) (fun c_8 => ?_) (fun c_8 => ?_)
  · refine lv_iconst (v := 0) hx hb dX9_isDigitNext_43 (by decide) ?_
    exact eZ S hr hlocks hP hS (by decide) dX9_isDigitNext_44 (by first | (refine ⟨?_, ?_⟩ <;> simp only [dgC, rngB, c_8, ↓reduceIte, if_true, if_false, eq_self]; done) | (refine ⟨?_, rfl⟩; simp only [dgC, rngB, c_8, ↓reduceIte, if_true, if_false, eq_self]; done) | exact ⟨rfl, rfl⟩ | (refine ⟨?_, rfl⟩; simp [dgC, rngB, c_8]; done) | (simp [dgC, rngB, c_8]; done) | grind [dgC, rngB])
  · have hlt : a < L := by have : ¬ L ≤ a := fun z => c_8 (nI_le z (by omega)); omega
    refine lv_aload_n hx hb dX9_isDigitNext_11 rfl (lv_at hl 0 rfl) ?_
    refine gf S G hP 239 0 (by decide) oTX rfl inX9 (by decide) fl_RX9_9 rfl rfl dX9_isDigitNext_12 ?_
    refine lv_aload_n hx hb dX9_isDigitNext_15 rfl (lv_at hl 0 rfl) ?_
    refine gf S G hP 239 6 (by decide) oTX rfl inX9 (by decide) fl_RX9_28 rfl rfl dX9_isDigitNext_16 ?_
    refine lv_tope (y := nI a) ha ?_
    refine cld S G hP 240 a (by decide) (aTXc _) rfl (by omega) (by decide) dX9_isDigitNext_19 ?_
    refine lv_bipush (v := 48) hx hb dX9_isDigitNext_20 (by decide) ?_
    refine lv_icmp_lt (tgt := 43) hx hb dX9_isDigitNext_22 (by decide) (fun c_22 => ?_) (fun c_22 => ?_)
    · refine lv_iconst (v := 0) hx hb dX9_isDigitNext_43 (by decide) ?_
      exact eZ S hr hlocks hP hS (by decide) dX9_isDigitNext_44 (by first | (refine ⟨?_, ?_⟩ <;> simp only [dgC, rngB, c_8, c_22, ↓reduceIte, if_true, if_false, eq_self]; done) | (refine ⟨?_, rfl⟩; simp only [dgC, rngB, c_8, c_22, ↓reduceIte, if_true, if_false, eq_self]; done) | exact ⟨rfl, rfl⟩ | (refine ⟨?_, rfl⟩; simp [dgC, rngB, c_8, c_22]; done) | (simp [dgC, rngB, c_8, c_22]; done) | grind [dgC, rngB])
    · refine lv_aload_n hx hb dX9_isDigitNext_25 rfl (lv_at hl 0 rfl) ?_
      refine gf S G hP 239 0 (by decide) oTX rfl inX9 (by decide) fl_RX9_9 rfl rfl dX9_isDigitNext_26 ?_
      refine lv_aload_n hx hb dX9_isDigitNext_29 rfl (lv_at hl 0 rfl) ?_
      refine gf S G hP 239 6 (by decide) oTX rfl inX9 (by decide) fl_RX9_28 rfl rfl dX9_isDigitNext_30 ?_
      refine lv_tope (y := nI a) ha ?_
      refine cld S G hP 240 a (by decide) (aTXc _) rfl (by omega) (by decide) dX9_isDigitNext_33 ?_
      refine lv_bipush (v := 57) hx hb dX9_isDigitNext_34 (by decide) ?_
      refine lv_icmp_gt (tgt := 43) hx hb dX9_isDigitNext_36 (by decide) (fun c_36 => ?_) (fun c_36 => ?_)
      · refine lv_iconst (v := 0) hx hb dX9_isDigitNext_43 (by decide) ?_
        exact eZ S hr hlocks hP hS (by decide) dX9_isDigitNext_44 (by first | (refine ⟨?_, ?_⟩ <;> simp only [dgC, rngB, c_8, c_22, c_36, ↓reduceIte, if_true, if_false, eq_self]; done) | (refine ⟨?_, rfl⟩; simp only [dgC, rngB, c_8, c_22, c_36, ↓reduceIte, if_true, if_false, eq_self]; done) | exact ⟨rfl, rfl⟩ | (refine ⟨?_, rfl⟩; simp [dgC, rngB, c_8, c_22, c_36]; done) | (simp [dgC, rngB, c_8, c_22, c_36]; done) | grind [dgC, rngB])
      · refine lv_iconst (v := 1) hx hb dX9_isDigitNext_39 (by decide) ?_
        refine lv_goto (tgt := 44) hx hb dX9_isDigitNext_40 (by decide) ?_
        exact eZ S hr hlocks hP hS (by decide) dX9_isDigitNext_44 (by first | (refine ⟨?_, ?_⟩ <;> simp only [dgC, rngB, c_8, c_22, c_36, ↓reduceIte, if_true, if_false, eq_self]; done) | (refine ⟨?_, rfl⟩; simp only [dgC, rngB, c_8, c_22, c_36, ↓reduceIte, if_true, if_false, eq_self]; done) | exact ⟨rfl, rfl⟩ | (refine ⟨?_, rfl⟩; simp [dgC, rngB, c_8, c_22, c_36]; done) | (simp [dgC, rngB, c_8, c_22, c_36]; done) | grind [dgC, rngB])

theorem ok_yX9_readExactly : COK RX9 yX9_readExactly cX9_readExactly 2 (some .boolean) 1 := ⟨im_yX9_readExactly, se_RX9_yX9_readExactly, in_RX9, co_yX9_readExactly, ⟨rfl, by decide +kernel, by decide +kernel, by decide +kernel⟩, by decide⟩
set_option maxHeartbeats 1000000 in
set_option maxRecDepth 100000 in
theorem c_X9_readExactly (l : Launch) {D : va_G} {ct : Nat → ClassId} {ek ad : Nat → Nat} {N0 : Nat} {X : va_W} {F : State → Prop} (σ : Mem) (ch : Int32) (a : Nat) (ha : σ 239 6 = nI a) (L : Nat) (hL : σ 239 3 = nI L) (haL : a ≤ L) (hL6 : L ≤ 60) : MI l yX9_readExactly cX9_readExactly 2 (some .boolean) 1 D ct ek ad N0 X F [.ref (ad 239), .int ch] σ (fun r τ => r = nxV (σ 240) L a ch ∧ τ = sg σ 239 6 (nI (nxE (σ 240) L a ch))) := by
  refine ms0 (own := RX9) (by decide) rfl (Nat.le_of_ble_eq_true rfl) (fun p e s m args below meth c S hr hlocks hnm G hP hS ls hl => ?_)
  have hx := S.1
  have hb := S.2.1
  replace hl : lv_has ls 2 [(0, .ref (ad 239)), (1, .int ch)] := hl
  refine lv_aload_n hx hb dX9_readExactly_0 rfl (lv_at hl 0 rfl) ?_
  refine lv_iload_n hx hb dX9_readExactly_1 rfl (lv_at hl 1 rfl) ?_
  refine cVie (As := [.int ch]) S G 239 (c_X9_isNext l (D := D) (ct := ct) (ek := ek) (ad := ad) (N0 := N0) (X := X) (F := F) σ ch a (by first | assumption | omega | (simp [sg_at]; assumption) | (simp [sg_at]; done)) L (by first | assumption | omega | (simp [sg_at]; assumption) | (simp [sg_at]; done)) (by omega) (by omega)) ok_yX9_isNext ml_RX9_58 (by decide) oTX rfl hP hS hl.1 rfl (by decide) rfl rfl (Nat.le_of_ble_eq_true rfl) ⟨Nat.zero_le _, Nat.zero_le _⟩ dX9_readExactly_2 (fun H locs hP hS => ?_)
  refine lv_if_ne (tgt := 10) hx hb dX9_readExactly_5 (by decide) (fun c_5 => ?_) (fun c_5 => ?_)
  · refine lv_aload_n hx hb dX9_readExactly_10 rfl (lv_at hl 0 rfl) ?_
    refine lv_dup hx hb dX9_readExactly_11 rfl ?_
    refine gf S G hP 239 6 (by decide) oTX rfl inX9 (by decide) fl_RX9_28 rfl rfl dX9_readExactly_12 ?_
    refine lv_tope (y := nI a) ha ?_
    refine lv_iconst (v := 1) hx hb dX9_readExactly_15 (by decide) ?_
    refine nadd hx hb a 1 dX9_readExactly_16 rfl (by decide) ?_
    refine pf S G hP hS 239 6 (x := nI (a + 1)) tyX9 tyX9_ok nmX9 (by decide) oTX rfl inX9 (by decide) fl_RX9_28 rfl rfl rfl rfl (Nat.le_of_ble_eq_true rfl) oTX dX9_readExactly_17 (fun H locs hP hS => ?_)
    refine lv_iconst (v := 1) hx hb dX9_readExactly_20 (by decide) ?_
    exact eZ S hr hlocks hP hS (by decide) dX9_readExactly_21 (by rw [nx_e1 c_5]; exact ⟨(nxV_b.resolve_left c_5).symm, rfl⟩)
  · refine lv_iconst (v := 0) hx hb dX9_readExactly_8 (by decide) ?_
    exact eZ S hr hlocks hP hS (by decide) dX9_readExactly_9 (by rw [nx_e0 c_5, sg_id ha]; exact ⟨c_5.symm, rfl⟩)

theorem ok_yX9_readNumber : COK RX9 yX9_readNumber cX9_readNumber 4 (some .boolean) 1 := ⟨im_yX9_readNumber, se_RX9_yX9_readNumber, in_RX9, co_yX9_readNumber, ⟨rfl, by decide +kernel, by decide +kernel, by decide +kernel⟩, by decide⟩
set_option maxHeartbeats 1000000 in
set_option maxRecDepth 100000 in
theorem c_X9_readNumber (l : Launch) {D : va_G} {ct : Nat → ClassId} {ek ad : Nat → Nat} {N0 : Nat} {X : va_W} {F : State → Prop} (σ : Mem) (mm : Nat) (hm1 : 0 < mm) (hm2 : mm ≤ 2) (a : Nat) (ha : σ 239 6 = nI a) (L : Nat) (hL : σ 239 3 = nI L) (haL : a ≤ L) (hL6 : L ≤ 60) (nc : Nat) (hnc : σ 239 5 = nI nc) (hnc3 : nc < 3) : MI l yX9_readNumber cX9_readNumber 4 (some .boolean) 1 D ct ek ad N0 X F [.ref (ad 239), .int (nI mm)] σ (fun r τ => r = dgR (σ 240) L a mm ∧ τ = rdN σ (σ 240) L a mm nc) := by
  refine ms0 (own := RX9) (by decide) rfl (Nat.le_of_ble_eq_true rfl) (fun p e s m args below meth c S hr hlocks hnm G hP hS ls hl => ?_)
  have hx := S.1
  have hb := S.2.1
  replace hl : lv_has ls 4 [(0, .ref (ad 239)), (1, .int (nI mm))] := hl
  refine lv_aload_n hx hb dX9_readNumber_0 rfl (lv_at hl 0 rfl) ?_
  refine cVie (As := []) S G 239 (c_X9_isDigitNext l (D := D) (ct := ct) (ek := ek) (ad := ad) (N0 := N0) (X := X) (F := F) σ a (by first | assumption | omega | (simp [sg_at]; assumption) | (simp [sg_at]; done)) L (by first | assumption | omega | (simp [sg_at]; assumption) | (simp [sg_at]; done)) (by omega) (by omega)) ok_yX9_isDigitNext ml_RX9_86 (by decide) oTX rfl hP hS hl.1 rfl (by decide) rfl rfl (Nat.le_of_ble_eq_true rfl) ⟨Nat.zero_le _, Nat.zero_le _⟩ dX9_readNumber_1 (fun H locs hP hS => ?_)
  refine lv_if_ne (tgt := 9) hx hb dX9_readNumber_4 (by decide) (fun c_4 => ?_) (fun c_4 => ?_)
  · refine lv_iconst (v := 0) hx hb dX9_readNumber_9 (by decide) ?_
    refine lv_istore_n (lv' := [(2, .int 0), (0, .ref (ad 239)), (1, .int (nI mm))]) hx hb dX9_readNumber_10 rfl hl (by decide) rfl (fun ls hl => ?_)
    refine lv_iconst (v := 0) hx hb dX9_readNumber_11 (by decide) ?_
    refine lv_istore_n (lv' := [(3, .int 0), (2, .int 0), (0, .ref (ad 239)), (1, .int (nI mm))]) hx hb dX9_readNumber_12 rfl hl (by decide) rfl (fun ls hl => ?_)
    have key_13 : ∀ (d k : Nat), k + d = mm → (dgs (σ 240) L (a + k) d + k = dgs (σ 240) L a mm) → (a + k ≤ L) → ∀ (H : Heap) (locs : List Loc) (ls : Array Slot), wP D ct ek ad X (sg σ 239 6 (nI (a + k))) H → va_S (fr N0) s.heap H locs → lv_has ls 4 [(3, .int (nI k)), (2, .int (dgV (σ 240) a k)), (0, .ref (ad 239)), (1, .int (nI mm))] → W p l e (rmd 1 0 0) s m args below meth c H locs 0 0 (MQ below (wQi D ct ek ad N0 X (fun r τ => r = dgR (σ 240) L a mm ∧ τ = rdN σ (σ 240) L a mm nc)) args s 0 0 (fr N0)) (F0 m 13 ls []) := by
      intro d
      induction d with
      | zero =>
        intro k9 hk
        obtain rfl : mm = k9 := by omega
        intro hd hak H locs ls hP hS hl
        refine lv_iload_n hx hb dX9_readNumber_13 rfl (lv_at hl 0 rfl) ?_
        refine lv_iload_n hx hb dX9_readNumber_14 rfl (lv_at hl 3 rfl) ?_
        refine lv_icmp_ge (tgt := 59) hx hb dX9_readNumber_15 (by decide) (fun c_15 => ?_) (fun c_15 => absurd (nI_le (by omega) (by omega)) c_15)
        have hm9 : dgs (σ 240) L a mm = mm := by rw [← hd]; exact Nat.zero_add mm
        refine lv_aload_n hx hb dX9_readNumber_59 rfl (lv_at hl 2 rfl) ?_
        refine gf S G hP 239 5 (by decide) oTX rfl inX9 (by decide) fl_RX9_65 rfl rfl dX9_readNumber_60 ?_
        refine lv_tope (y := nI nc) (by simp only [sg_at]; simp [hnc]) ?_
        refine lv_iconst (v := 3) hx hb dX9_readNumber_63 (by decide) ?_
        refine lv_icmp_ge (tgt := 99) hx hb dX9_readNumber_64 (by decide) (fun c_64 => absurd c_64 (nI_ge (b := 3) (by omega) (by omega))) (fun c_64 => ?_)
        refine lv_aload_n hx hb dX9_readNumber_67 rfl (lv_at hl 2 rfl) ?_
        refine gf S G hP 239 2 (by decide) oTX rfl inX9 (by decide) fl_RX9_19 rfl rfl dX9_readNumber_68 ?_
        refine lv_aload_n hx hb dX9_readNumber_71 rfl (lv_at hl 2 rfl) ?_
        refine gf S G hP 239 5 (by decide) oTX rfl inX9 (by decide) fl_RX9_65 rfl rfl dX9_readNumber_72 ?_
        refine lv_tope (y := nI nc) (by simp only [sg_at]; simp [hnc]) ?_
        refine lv_aload_n hx hb dX9_readNumber_75 rfl (lv_at hl 2 rfl) ?_
        refine gf S G hP 239 7 (by decide) oTX rfl inX9 (by decide) fl_RX9_68 rfl rfl dX9_readNumber_76 ?_
        refine lv_tope (y := σ 239 7) (by simp only [sg_at]; simp) ?_
        have jn_79_1 : ∀ (H : Heap) (locs : List Loc) (ls : Array Slot), wP D ct ek ad X (sg σ 239 6 (nI (a + mm))) H → va_S (fr N0) s.heap H locs → lv_has ls 4 [(3, .int (nI mm)), (2, .int (dgV (σ 240) a mm)), (0, .ref (ad 239)), (1, .int (nI mm))] → W p l e (rmd 1 0 0) s m args below meth c H locs 0 0 (MQ below (wQi D ct ek ad N0 X (fun r τ => r = dgR (σ 240) L a mm ∧ τ = rdN σ (σ 240) L a mm nc)) args s 0 0 (fr N0)) (F0 m 88 ls [.int (sgd (σ 239 7) (dgV (σ 240) a mm)), .int (nI nc), .ref (ad 242)]) := by
          intro H locs ls hP hS hl
          refine ast S G hP hS 242 nc (by decide) aTXn rfl (by omega) (by decide) dX9_readNumber_88 (fun H locs hP hS => ?_)
          refine lv_aload_n hx hb dX9_readNumber_89 rfl (lv_at hl 2 rfl) ?_
          refine lv_dup hx hb dX9_readNumber_90 rfl ?_
          refine gf S G hP 239 5 (by decide) oTX rfl inX9 (by decide) fl_RX9_65 rfl rfl dX9_readNumber_91 ?_
          refine lv_tope (y := nI nc) (by simp only [sg_at]; simp [hnc]) ?_
          refine lv_iconst (v := 1) hx hb dX9_readNumber_94 (by decide) ?_
          refine nadd hx hb nc 1 dX9_readNumber_95 rfl (by decide) ?_
          refine pf S G hP hS 239 5 (x := nI (nc + 1)) tyX9 tyX9_ok nmX9 (by decide) oTX rfl inX9 (by decide) fl_RX9_65 rfl rfl rfl rfl (Nat.le_of_ble_eq_true rfl) oTX dX9_readNumber_96 (fun H locs hP hS => ?_)
          refine lv_iconst (v := 1) hx hb dX9_readNumber_99 (by decide) ?_
          exact eZ S hr hlocks hP hS (by decide) dX9_readNumber_100 (rn_fin hm1 c_4 hm9)
        refine lv_if_eq (tgt := 87) hx hb dX9_readNumber_79 (by decide) (fun c_79 => ?_) (fun c_79 => ?_)
        · refine lv_iload_n hx hb dX9_readNumber_87 rfl (lv_at hl 1 rfl) ?_
          refine lv_tope (y := sgd (σ 239 7) (dgV (σ 240) a mm)) (by unfold sgd; simp only [c_4, c_15, c_64, c_79, ↓reduceIte]) ?_
          exact jn_79_1 _ _ _ hP hS (lv_sub hl [0, 1, 2, 3] rfl)
        · refine lv_iload_n hx hb dX9_readNumber_82 rfl (lv_at hl 1 rfl) ?_
          refine lv_ineg hx hb dX9_readNumber_83 ?_
          refine lv_goto (tgt := 88) hx hb dX9_readNumber_84 (by decide) ?_
          refine lv_tope (y := sgd (σ 239 7) (dgV (σ 240) a mm)) (by unfold sgd; simp only [c_4, c_15, c_64, c_79, ↓reduceIte]) ?_
          exact jn_79_1 _ _ _ hP hS (lv_sub hl [0, 1, 2, 3] rfl)
      | succ d ih =>
        intro k hk hd hak H locs ls hP hS hl
        have hkn : k < mm := by omega
        refine lv_iload_n hx hb dX9_readNumber_13 rfl (lv_at hl 0 rfl) ?_
        refine lv_iload_n hx hb dX9_readNumber_14 rfl (lv_at hl 3 rfl) ?_
        refine lv_icmp_ge (tgt := 59) hx hb dX9_readNumber_15 (by decide) (fun c_15 => absurd c_15 (nI_ge (by omega) (by omega))) (fun c_15 => ?_)
        refine lv_aload_n hx hb dX9_readNumber_18 rfl (lv_at hl 2 rfl) ?_
        refine cVie (As := []) S G 239 (c_X9_isDigitNext l (D := D) (ct := ct) (ek := ek) (ad := ad) (N0 := N0) (X := X) (F := F) (sg σ 239 6 (nI (a + k))) (a + k) sg_ss L (by simp only [sg_at]; simp [hL]) (by omega) (by omega)) ok_yX9_isDigitNext ml_RX9_86 (by decide) oTX rfl hP hS hl.1 rfl (by decide) rfl rfl (Nat.le_of_ble_eq_true rfl) ⟨Nat.zero_le _, Nat.zero_le _⟩ dX9_readNumber_19 (fun H locs hP hS => ?_)
        refine lv_tope (y := dgC (σ 240) L (a + k)) (by rw [sg_n (by decide)]) ?_
        refine lv_if_eq (tgt := 59) hx hb dX9_readNumber_22 (by decide) (fun c_22 => ?_) (fun c_22 => ?_)
        · have hg : dgC (σ 240) L (a + k) = 0 := c_22
          have hm9 : dgs (σ 240) L a mm = k := by rw [← hd, dgs_s, if_pos hg]; exact Nat.zero_add k
          refine lv_aload_n hx hb dX9_readNumber_59 rfl (lv_at hl 2 rfl) ?_
          refine gf S G hP 239 5 (by decide) oTX rfl inX9 (by decide) fl_RX9_65 rfl rfl dX9_readNumber_60 ?_
          refine lv_tope (y := nI nc) (by simp only [sg_at]; simp [hnc]) ?_
          refine lv_iconst (v := 3) hx hb dX9_readNumber_63 (by decide) ?_
          refine lv_icmp_ge (tgt := 99) hx hb dX9_readNumber_64 (by decide) (fun c_64 => absurd c_64 (nI_ge (b := 3) (by omega) (by omega))) (fun c_64 => ?_)
          refine lv_aload_n hx hb dX9_readNumber_67 rfl (lv_at hl 2 rfl) ?_
          refine gf S G hP 239 2 (by decide) oTX rfl inX9 (by decide) fl_RX9_19 rfl rfl dX9_readNumber_68 ?_
          refine lv_aload_n hx hb dX9_readNumber_71 rfl (lv_at hl 2 rfl) ?_
          refine gf S G hP 239 5 (by decide) oTX rfl inX9 (by decide) fl_RX9_65 rfl rfl dX9_readNumber_72 ?_
          refine lv_tope (y := nI nc) (by simp only [sg_at]; simp [hnc]) ?_
          refine lv_aload_n hx hb dX9_readNumber_75 rfl (lv_at hl 2 rfl) ?_
          refine gf S G hP 239 7 (by decide) oTX rfl inX9 (by decide) fl_RX9_68 rfl rfl dX9_readNumber_76 ?_
          refine lv_tope (y := σ 239 7) (by simp only [sg_at]; simp) ?_
          have jn_79_2 : ∀ (H : Heap) (locs : List Loc) (ls : Array Slot), wP D ct ek ad X (sg σ 239 6 (nI (a + k))) H → va_S (fr N0) s.heap H locs → lv_has ls 4 [(3, .int (nI k)), (2, .int (dgV (σ 240) a k)), (0, .ref (ad 239)), (1, .int (nI mm))] → W p l e (rmd 1 0 0) s m args below meth c H locs 0 0 (MQ below (wQi D ct ek ad N0 X (fun r τ => r = dgR (σ 240) L a mm ∧ τ = rdN σ (σ 240) L a mm nc)) args s 0 0 (fr N0)) (F0 m 88 ls [.int (sgd (σ 239 7) (dgV (σ 240) a k)), .int (nI nc), .ref (ad 242)]) := by
            intro H locs ls hP hS hl
            refine ast S G hP hS 242 nc (by decide) aTXn rfl (by omega) (by decide) dX9_readNumber_88 (fun H locs hP hS => ?_)
            refine lv_aload_n hx hb dX9_readNumber_89 rfl (lv_at hl 2 rfl) ?_
            refine lv_dup hx hb dX9_readNumber_90 rfl ?_
            refine gf S G hP 239 5 (by decide) oTX rfl inX9 (by decide) fl_RX9_65 rfl rfl dX9_readNumber_91 ?_
            refine lv_tope (y := nI nc) (by simp only [sg_at]; simp [hnc]) ?_
            refine lv_iconst (v := 1) hx hb dX9_readNumber_94 (by decide) ?_
            refine nadd hx hb nc 1 dX9_readNumber_95 rfl (by decide) ?_
            refine pf S G hP hS 239 5 (x := nI (nc + 1)) tyX9 tyX9_ok nmX9 (by decide) oTX rfl inX9 (by decide) fl_RX9_65 rfl rfl rfl rfl (Nat.le_of_ble_eq_true rfl) oTX dX9_readNumber_96 (fun H locs hP hS => ?_)
            refine lv_iconst (v := 1) hx hb dX9_readNumber_99 (by decide) ?_
            exact eZ S hr hlocks hP hS (by decide) dX9_readNumber_100 (rn_fin hm1 c_4 hm9)
          refine lv_if_eq (tgt := 87) hx hb dX9_readNumber_79 (by decide) (fun c_79 => ?_) (fun c_79 => ?_)
          · refine lv_iload_n hx hb dX9_readNumber_87 rfl (lv_at hl 1 rfl) ?_
            refine lv_tope (y := sgd (σ 239 7) (dgV (σ 240) a k)) (by unfold sgd; simp only [c_4, c_15, c_22, c_64, c_79, ↓reduceIte]) ?_
            exact jn_79_2 _ _ _ hP hS (lv_sub hl [0, 1, 2, 3] rfl)
          · refine lv_iload_n hx hb dX9_readNumber_82 rfl (lv_at hl 1 rfl) ?_
            refine lv_ineg hx hb dX9_readNumber_83 ?_
            refine lv_goto (tgt := 88) hx hb dX9_readNumber_84 (by decide) ?_
            refine lv_tope (y := sgd (σ 239 7) (dgV (σ 240) a k)) (by unfold sgd; simp only [c_4, c_15, c_22, c_64, c_79, ↓reduceIte]) ?_
            exact jn_79_2 _ _ _ hP hS (lv_sub hl [0, 1, 2, 3] rfl)
        · have hlt : a + k < L := by have h0 : ¬ nI L ≤ nI (a + k) := fun z => c_22 (if_pos z); have : ¬ L ≤ a + k := fun z => h0 (nI_le z (by omega)); omega
          refine lv_iload_n hx hb dX9_readNumber_25 rfl (lv_at hl 1 rfl) ?_
          refine lv_bipush (v := 10) hx hb dX9_readNumber_26 (by decide) ?_
          refine lv_imul hx hb dX9_readNumber_28 ?_
          refine lv_aload_n hx hb dX9_readNumber_29 rfl (lv_at hl 2 rfl) ?_
          refine gf S G hP 239 0 (by decide) oTX rfl inX9 (by decide) fl_RX9_9 rfl rfl dX9_readNumber_30 ?_
          refine lv_aload_n hx hb dX9_readNumber_33 rfl (lv_at hl 2 rfl) ?_
          refine gf S G hP 239 6 (by decide) oTX rfl inX9 (by decide) fl_RX9_28 rfl rfl dX9_readNumber_34 ?_
          refine lv_tope (y := nI (a + k)) (by rw [sg_ss]) ?_
          refine cld S G hP 240 (a + k) (by decide) (aTXc _) rfl (by omega) (by decide) dX9_readNumber_37 ?_
          refine lv_tope (y := σ 240 (a + k)) (by rw [sg_n (by decide)]) ?_
          refine lv_iadd hx hb dX9_readNumber_38 ?_
          refine lv_bipush (v := 48) hx hb dX9_readNumber_39 (by decide) ?_
          refine lv_isub hx hb dX9_readNumber_41 ?_
          refine lv_istore_n (lv' := [(2, .int ((((dgV (σ 240) a k) * 10) + (σ 240 (a + k))) - 48)), (3, .int (nI k)), (0, .ref (ad 239)), (1, .int (nI mm))]) hx hb dX9_readNumber_42 rfl hl (by decide) rfl (fun ls hl => ?_)
          refine lv_aload_n hx hb dX9_readNumber_43 rfl (lv_at hl 2 rfl) ?_
          refine lv_dup hx hb dX9_readNumber_44 rfl ?_
          refine gf S G hP 239 6 (by decide) oTX rfl inX9 (by decide) fl_RX9_28 rfl rfl dX9_readNumber_45 ?_
          refine lv_tope (y := nI (a + k)) (by rw [sg_ss]) ?_
          refine lv_iconst (v := 1) hx hb dX9_readNumber_48 (by decide) ?_
          refine nadd hx hb (a + k) 1 dX9_readNumber_49 rfl (by decide) ?_
          refine pf S G hP hS 239 6 (x := nI ((a + k) + 1)) tyX9 tyX9_ok nmX9 (by decide) oTX rfl inX9 (by decide) fl_RX9_28 rfl rfl rfl rfl (Nat.le_of_ble_eq_true rfl) oTX dX9_readNumber_50 (fun H locs hP hS => ?_)
          refine lv_iinc (v := nI (k + 1)) (lv' := [(3, .int (nI (k + 1))), (2, .int ((((dgV (σ 240) a k) * 10) + (σ 240 (a + k))) - 48)), (0, .ref (ad 239)), (1, .int (nI mm))]) hx hb dX9_readNumber_53 hl (k := 1) rfl (nI_inc _) (by decide) rfl (fun ls hl => ?_)
          refine lv_goto (tgt := 13) hx hb dX9_readNumber_56 (by decide) ?_
          exact ih (k + 1) (by omega) (by rw [← hd, dgs_s, if_neg c_22, show a + (k + 1) = a + k + 1 from rfl]; omega) (by omega) _ _ _ (wP_e hP (by rw [sg_sg]; rfl)) hS (lv_v (lv_sub (l' := [(3, .int (nI (k + 1))), (2, .int ((((dgV (σ 240) a k) * 10) + (σ 240 (a + k))) - 48)), (0, .ref (ad 239)), (1, .int (nI mm))]) hl [0, 1, 2, 3] rfl) rfl)
    exact key_13 mm 0 (by omega) rfl haL _ _ _ (wP_e hP (sg_id ha).symm) hS (lv_v (lv_sub (l' := [(3, .int 0), (2, .int 0), (0, .ref (ad 239)), (1, .int (nI mm))]) hl [0, 1, 2, 3] rfl) rfl)
  · refine lv_iconst (v := 0) hx hb dX9_readNumber_7 (by decide) ?_
    exact eZ S hr hlocks hP hS (by decide) dX9_readNumber_8 ⟨(show (0 : Int32) = dgR (σ 240) L a mm from by unfold dgR; rw [show dgs (σ 240) L a mm = 0 from by obtain ⟨m9, rfl⟩ : ∃ m9, mm = m9 + 1 := ⟨mm - 1, by omega⟩; rw [dgs_s, if_pos c_4]]; rfl), (if_pos (show dgR (σ 240) L a mm = 0 from by unfold dgR; rw [show dgs (σ 240) L a mm = 0 from by obtain ⟨m9, rfl⟩ : ∃ m9, mm = m9 + 1 := ⟨mm - 1, by omega⟩; rw [dgs_s, if_pos c_4]]; rfl)).symm⟩

theorem ok_yX9_readPart : COK RX9 yX9_readPart cX9_readPart 2 (some .boolean) 1 := ⟨im_yX9_readPart, se_RX9_yX9_readPart, in_RX9, co_yX9_readPart, ⟨rfl, by decide +kernel, by decide +kernel, by decide +kernel⟩, by decide⟩
set_option maxHeartbeats 1000000 in
set_option maxRecDepth 100000 in
theorem c_X9_readPart (l : Launch) {D : va_G} {ct : Nat → ClassId} {ek ad : Nat → Nat} {N0 : Nat} {X : va_W} {F : State → Prop} (σ : Mem) (x : Int32) (a : Nat) (ha : σ 239 6 = nI a) (L : Nat) (hL : σ 239 3 = nI L) (haL : a ≤ L) (hL6 : L ≤ 60) (nc : Nat) (hnc : σ 239 5 = nI nc) (hnc3 : x = 48 ∨ x = 57 → nc < 3) : MI l yX9_readPart cX9_readPart 2 (some .boolean) 2 D ct ek ad N0 X F [.ref (ad 239), .int x] σ (fun r τ => r = ptV (σ 240) L a x ∧ τ = rdM σ (σ 240) L a nc x) := by
  refine ms0 (own := RX9) (by decide) rfl (Nat.le_of_ble_eq_true rfl) (fun p e s m args below meth c S hr hlocks hnm G hP hS ls hl => ?_)
  have hx := S.1
  have hb := S.2.1
  replace hl : lv_has ls 2 [(0, .ref (ad 239)), (1, .int x)] := hl
  refine lv_iload_n hx hb dX9_readPart_0 rfl (lv_at hl 1 rfl) ?_
  refine lv_bipush (v := 43) hx hb dX9_readPart_1 (by decide) ?_
  refine lv_icmp_ne (tgt := 35) hx hb dX9_readPart_3 (by decide) (fun c_3 => ?_) (fun c_3 => ?_)
  · refine lv_iload_n hx hb dX9_readPart_35 rfl (lv_at hl 1 rfl) ?_
    refine lv_bipush (v := 48) hx hb dX9_readPart_36 (by decide) ?_
    refine lv_icmp_ne (tgt := 47) hx hb dX9_readPart_38 (by decide) (fun c_38 => ?_) (fun c_38 => ?_)
    · refine lv_iload_n hx hb dX9_readPart_47 rfl (lv_at hl 1 rfl) ?_
      refine lv_bipush (v := 57) hx hb dX9_readPart_48 (by decide) ?_
      refine lv_icmp_ne (tgt := 61) hx hb dX9_readPart_50 (by decide) (fun c_50 => ?_) (fun c_50 => ?_)
      · refine lv_aload_n hx hb dX9_readPart_61 rfl (lv_at hl 0 rfl) ?_
        refine lv_iload_n hx hb dX9_readPart_62 rfl (lv_at hl 1 rfl) ?_
        refine cVie (As := [.int x]) S G 239 (c_X9_readExactly l (D := D) (ct := ct) (ek := ek) (ad := ad) (N0 := N0) (X := X) (F := F) σ x a (by first | assumption | omega | (simp [sg_at]; assumption) | (simp [sg_at]; done)) L (by first | assumption | omega | (simp [sg_at]; assumption) | (simp [sg_at]; done)) (by omega) (by omega)) ok_yX9_readExactly ml_RX9_38 (by decide) oTX rfl hP hS hl.1 rfl (by decide) rfl rfl (Nat.le_of_ble_eq_true rfl) ⟨Nat.zero_le _, Nat.zero_le _⟩ dX9_readPart_63 (fun H locs hP hS => ?_)
        exact eZ S hr hlocks hP hS nxV_nar dX9_readPart_66 ⟨by unfold ptV; rw [if_neg c_3, if_neg c_38, if_neg c_50], by unfold rdM; rw [if_neg c_3, if_neg c_38, if_neg c_50]⟩
      · refine lv_aload_n hx hb dX9_readPart_53 rfl (lv_at hl 0 rfl) ?_
        refine lv_iconst (v := 2) hx hb dX9_readPart_54 (by decide) ?_
        refine cVie (As := [.int (nI 2)]) S G 239 (c_X9_readNumber l (D := D) (ct := ct) (ek := ek) (ad := ad) (N0 := N0) (X := X) (F := F) σ 2 (by omega) (by omega) a (by first | assumption | omega | (simp [sg_at]; assumption) | (simp [sg_at]; done)) L (by first | assumption | omega | (simp [sg_at]; assumption) | (simp [sg_at]; done)) (by omega) (by omega) nc (by first | assumption | omega | (simp [sg_at]; assumption) | (simp [sg_at]; done)) (hnc3 (Or.inr c_50))) ok_yX9_readNumber ml_RX9_82 (by decide) oTX rfl hP hS hl.1 rfl (by decide) rfl rfl (Nat.le_of_ble_eq_true rfl) ⟨Nat.zero_le _, Nat.zero_le _⟩ dX9_readPart_55 (fun H locs hP hS => ?_)
        refine lv_goto (tgt := 66) hx hb dX9_readPart_58 (by decide) ?_
        exact eZ S hr hlocks hP hS dgR_nar dX9_readPart_66 ⟨by unfold ptV; rw [if_neg c_3, if_neg c_38, if_pos c_50], by unfold rdM; rw [if_neg c_3, if_neg c_38, if_pos c_50]⟩
    · refine lv_aload_n hx hb dX9_readPart_41 rfl (lv_at hl 0 rfl) ?_
      refine lv_iconst (v := 1) hx hb dX9_readPart_42 (by decide) ?_
      refine cVie (As := [.int (nI 1)]) S G 239 (c_X9_readNumber l (D := D) (ct := ct) (ek := ek) (ad := ad) (N0 := N0) (X := X) (F := F) σ 1 (by omega) (by omega) a (by first | assumption | omega | (simp [sg_at]; assumption) | (simp [sg_at]; done)) L (by first | assumption | omega | (simp [sg_at]; assumption) | (simp [sg_at]; done)) (by omega) (by omega) nc (by first | assumption | omega | (simp [sg_at]; assumption) | (simp [sg_at]; done)) (hnc3 (Or.inl c_38))) ok_yX9_readNumber ml_RX9_82 (by decide) oTX rfl hP hS hl.1 rfl (by decide) rfl rfl (Nat.le_of_ble_eq_true rfl) ⟨Nat.zero_le _, Nat.zero_le _⟩ dX9_readPart_43 (fun H locs hP hS => ?_)
      exact eZ S hr hlocks hP hS dgR_nar dX9_readPart_46 ⟨by unfold ptV; rw [if_neg c_3, if_pos c_38], by unfold rdM; rw [if_neg c_3, if_pos c_38]⟩
  · refine lv_aload_n hx hb dX9_readPart_6 rfl (lv_at hl 0 rfl) ?_
    refine lv_aload_n hx hb dX9_readPart_7 rfl (lv_at hl 0 rfl) ?_
    refine lv_bipush (v := 45) hx hb dX9_readPart_8 (by decide) ?_
    refine cVie (As := [.int 45]) S G 239 (c_X9_isNext l (D := D) (ct := ct) (ek := ek) (ad := ad) (N0 := N0) (X := X) (F := F) σ 45 a (by first | assumption | omega | (simp [sg_at]; assumption) | (simp [sg_at]; done)) L (by first | assumption | omega | (simp [sg_at]; assumption) | (simp [sg_at]; done)) (by omega) (by omega)) ok_yX9_isNext ml_RX9_58 (by decide) oTX rfl hP hS hl.1 rfl (by decide) rfl rfl (Nat.le_of_ble_eq_true rfl) ⟨Nat.zero_le _, Nat.zero_le _⟩ dX9_readPart_10 (fun H locs hP hS => ?_)
    refine pf S G hP hS 239 7 (x := nxV (σ 240) L a 45) tyX9 tyX9_ok nmX9 (by decide) oTX rfl inX9 (by decide) fl_RX9_68 rfl rfl nxV_nar nxV_fit (Nat.le_of_ble_eq_true rfl) oTX dX9_readPart_13 (fun H locs hP hS => ?_)
    refine lv_aload_n hx hb dX9_readPart_16 rfl (lv_at hl 0 rfl) ?_
    refine lv_aload_n hx hb dX9_readPart_17 rfl (lv_at hl 0 rfl) ?_
    refine gf S G hP 239 7 (by decide) oTX rfl inX9 (by decide) fl_RX9_68 rfl rfl dX9_readPart_18 ?_
    refine lv_tope (y := nxV (σ 240) L a 45) (by rw [sg_ss]) ?_
    have jn_21_1 : ∀ (H : Heap) (locs : List Loc) (ls : Array Slot), wP D ct ek ad X (sg σ 239 7 (nxV (σ 240) L a 45)) H → va_S (fr N0) s.heap H locs → lv_has ls 2 [(0, .ref (ad 239)), (1, .int x)] → W p l e (rmd 2 0 0) s m args below meth c H locs 0 0 (MQ below (wQi D ct ek ad N0 X (fun r τ => r = ptV (σ 240) L a x ∧ τ = rdM σ (σ 240) L a nc x)) args s 0 0 (fr N0)) (F0 m 31 ls [.int (sgC (σ 240) L a), .ref (ad 239)]) := by
      intro H locs ls hP hS hl
      refine cVie (As := [.int (sgC (σ 240) L a)]) S G 239 (c_X9_readExactly l (D := D) (ct := ct) (ek := ek) (ad := ad) (N0 := N0) (X := X) (F := F) (sg σ 239 7 (nxV (σ 240) L a 45)) (sgC (σ 240) L a) a (by simp only [sg_at]; simp [ha]) L (by simp only [sg_at]; simp [hL]) (by omega) (by omega)) ok_yX9_readExactly ml_RX9_38 (by decide) oTX rfl hP hS hl.1 rfl (by decide) rfl rfl (Nat.le_of_ble_eq_true rfl) ⟨Nat.zero_le _, Nat.zero_le _⟩ dX9_readPart_31 (fun H locs hP hS => ?_)
      refine lv_tope (y := nxV (σ 240) L a (sgC (σ 240) L a)) (by rw [sg_n (by decide)]) ?_
      replace hP : wP D ct ek ad X (sg (sg σ 239 7 (nxV (σ 240) L a 45)) 239 6 (nI (nxE (σ 240) L a (sgC (σ 240) L a)))) H := hP
      exact eZ S hr hlocks hP hS nxV_nar dX9_readPart_34 ⟨by unfold ptV; rw [if_pos c_3], by unfold rdM; rw [if_pos c_3]⟩
    refine lv_if_eq (tgt := 29) hx hb dX9_readPart_21 (by decide) (fun c_21 => ?_) (fun c_21 => ?_)
    · refine lv_bipush (v := 43) hx hb dX9_readPart_29 (by decide) ?_
      refine lv_tope (y := sgC (σ 240) L a) (by unfold sgC; simp only [c_3, c_21, ↓reduceIte]) ?_
      exact jn_21_1 _ _ _ hP hS (lv_sub hl [0, 1] rfl)
    · refine lv_bipush (v := 45) hx hb dX9_readPart_24 (by decide) ?_
      refine lv_goto (tgt := 31) hx hb dX9_readPart_26 (by decide) ?_
      refine lv_tope (y := sgC (σ 240) L a) (by unfold sgC; simp only [c_3, c_21, ↓reduceIte]) ?_
      exact jn_21_1 _ _ _ hP hS (lv_sub hl [0, 1] rfl)

theorem ok_yX9_readAs : COK RX9 yX9_readAs cX9_readAs 3 (some .boolean) 1 := ⟨im_yX9_readAs, se_RX9_yX9_readAs, in_RX9, co_yX9_readAs, ⟨rfl, by decide +kernel, by decide +kernel, by decide +kernel⟩, by decide⟩
set_option maxHeartbeats 1000000 in
set_option maxRecDepth 100000 in
theorem c_X9_readAs (l : Launch) {D : va_G} {ct : Nat → ClassId} {ek ad : Nat → Nat} {N0 : Nat} {X : va_W} {F : State → Prop} (σ : Mem) (cs : Nat → Nat) (hF : ∀ U, F U → FX ek cs N0 U) (j : Nat) (hj : j < 8) (a : Nat) (ha : σ 239 6 = nI a) (L : Nat) (hL : σ 239 3 = nI L) (haL : a ≤ L) (hL6 : L ≤ 60) (cc : Nat) (hcc : σ 239 4 = nI cc) (hcc3 : cc < 30) (hkf : kf (σ 240) L a = j) : MI l yX9_readAs cX9_readAs 3 (some .boolean) 4 D ct ek ad N0 X F [.ref (ad 239), .ref (ek j)] σ (fun r τ => TxQ τ σ (σ 240) L a cc r) := by
  refine ms0 (own := RX9) (by decide) rfl (Nat.le_of_ble_eq_true rfl) (fun p e s m args below meth c S hr hlocks hnm G hP hS ls hl => ?_)
  have hx := S.1
  have hb := S.2.1
  replace hl : lv_has ls 3 [(0, .ref (ad 239)), (1, .ref (ek j))] := hl
  have FC := hF s G.2.2.2.2.2
  refine lv_aload_n hx hb dX9_readAs_0 rfl (lv_at hl 0 rfl) ?_
  refine lv_iconst (v := 0) hx hb dX9_readAs_1 (by decide) ?_
  refine pf S G hP hS 239 5 (x := 0) tyX9 tyX9_ok nmX9 (by decide) oTX rfl inX9 (by decide) fl_RX9_65 rfl rfl rfl rfl (Nat.le_of_ble_eq_true rfl) oTX dX9_readAs_2 (fun H locs hP hS => ?_)
  refine lv_aload_n hx hb dX9_readAs_5 rfl (lv_at hl 0 rfl) ?_
  refine lv_iconst (v := 0) hx hb dX9_readAs_6 (by decide) ?_
  refine pf S G hP hS 239 7 (x := 0) tyX9 tyX9_ok nmX9 (by decide) oTX rfl inX9 (by decide) fl_RX9_68 rfl rfl rfl rfl (Nat.le_of_ble_eq_true rfl) oTX dX9_readAs_7 (fun H locs hP hS => ?_)
  refine lv_iconst (v := 0) hx hb dX9_readAs_10 (by decide) ?_
  refine lv_istore_n (lv' := [(2, .int 0), (0, .ref (ad 239)), (1, .ref (ek j))]) hx hb dX9_readAs_11 rfl hl (by decide) rfl (fun ls hl => ?_)
  have key_12 : ∀ (d k : Nat), k + d = strL.getD j 0 → ∀ (q9 : Nat), ∀ (nc : Nat), (q9 ≤ L) → ∀ (τ : Mem), (RdA τ σ (σ 240) L a (strB.getD j []) k q9 nc) → ∀ (H : Heap) (locs : List Loc) (ls : Array Slot), wP D ct ek ad X τ H → va_S (fr N0) s.heap H locs → lv_has ls 3 [(2, .int (nI k)), (0, .ref (ad 239)), (1, .ref (ek j))] → W p l e (rmd 4 0 0) s m args below meth c H locs 0 0 (MQ below (wQi D ct ek ad N0 X (fun r τ => TxQ τ σ (σ 240) L a cc r)) args s 0 0 (fr N0)) (F0 m 12 ls []) := by
    intro d
    induction d with
    | zero =>
      intro k9 hk
      obtain rfl : strL.getD j 0 = k9 := by omega
      intro q9 nc hpL τ hτ H locs ls hP hS hl
      refine lv_iload_n hx hb dX9_readAs_12 rfl (lv_at hl 0 rfl) ?_
      refine lv_aload_n hx hb dX9_readAs_13 rfl (lv_at hl 2 rfl) ?_
      refine kgfN (A := fr N0) hx hb (FC.pat hj) hS S.2.2.2.1 (va_Nw.use rfl (G.2.2.2.1 _ nw_RX9_48)) (fun _ h => h) dX9_readAs_14 ?_
      refine cKie (As := []) S G (c_J0_length_8abf5 l (D := D) (ct := ct) (ek := ek) (ad := ad) (N0 := N0) (X := X) (F := F) τ cs (by first | assumption | omega | (simp [sg_at]; assumption) | (simp [sg_at]; done)) j (show j < 14 by omega)) ok_yJ0_length_8abf5 ml_RX9_72 (vk_recv FC.str (show j < 14 by omega) hS) hP hS hl.1 rfl (by decide) rfl rfl (Nat.le_of_ble_eq_true rfl) ⟨Nat.zero_le _, Nat.zero_le _⟩ dX9_readAs_17 (fun H locs hP hS => ?_)
      refine lv_tope (y := nI (strL.getD j 0)) rfl ?_
      refine lv_icmp_ge (tgt := 46) hx hb dX9_readAs_20 (by decide) (fun c_20 => ?_) (fun c_20 => absurd (Int32.le_refl _) c_20)
      have hT : τ 240 = σ 240 := hτ.1.1 240 (by decide) (by decide)
      have h4c : τ 239 4 = nI cc := (hτ.1.2 4 (by omega)).trans hcc
      refine lv_aload_n hx hb dX9_readAs_46 rfl (lv_at hl 1 rfl) ?_
      refine gf S G hP 239 1 (by decide) oTX rfl inX9 (by decide) fl_RX9_15 rfl rfl dX9_readAs_47 ?_
      refine lv_aload_n hx hb dX9_readAs_50 rfl (lv_at hl 1 rfl) ?_
      refine gf S G hP 239 4 (by decide) oTX rfl inX9 (by decide) fl_RX9_31 rfl rfl dX9_readAs_51 ?_
      refine lv_tope (y := nI cc) h4c ?_
      refine rld S G hP 241 cc (by decide) (gTX _) (t0 := 3) rfl rfl (by omega) (by decide) (if_pos (by omega)) dX9_readAs_54 ?_
      refine lv_aload_n hx hb dX9_readAs_55 rfl (lv_at hl 2 rfl) ?_
      refine lv_aload_n hx hb dX9_readAs_56 rfl (lv_at hl 1 rfl) ?_
      refine gf S G hP 239 2 (by decide) oTX rfl inX9 (by decide) fl_RX9_19 rfl rfl dX9_readAs_57 ?_
      refine lv_iconst (v := 0) hx hb dX9_readAs_60 (by decide) ?_
      refine ald S G hP 242 0 (by decide) (aTXn _) (by decide) (by omega) (by decide) dX9_readAs_61 ?_
      refine lv_aload_n hx hb dX9_readAs_62 rfl (lv_at hl 1 rfl) ?_
      refine gf S G hP 239 2 (by decide) oTX rfl inX9 (by decide) fl_RX9_19 rfl rfl dX9_readAs_63 ?_
      refine lv_iconst (v := 1) hx hb dX9_readAs_66 (by decide) ?_
      refine ald S G hP 242 1 (by decide) (aTXn _) (by decide) (by omega) (by decide) dX9_readAs_67 ?_
      refine lv_aload_n hx hb dX9_readAs_68 rfl (lv_at hl 1 rfl) ?_
      refine gf S G hP 239 2 (by decide) oTX rfl inX9 (by decide) fl_RX9_19 rfl rfl dX9_readAs_69 ?_
      refine lv_iconst (v := 2) hx hb dX9_readAs_72 (by decide) ?_
      refine ald S G hP 242 2 (by decide) (aTXn _) (by decide) (by omega) (by decide) dX9_readAs_73 ?_
      refine cVve (As := [.ref (ek j), .int (τ 242 0), .int (τ 242 1), .int (τ 242 2)]) S G (243 + cc) (c_X3_ask l (D := D) (ct := ct) (ek := ek) (ad := ad) (N0 := N0) (X := X) (F := F) τ (243 + cc) (isCt (by omega)) j hj (τ 242 0) (τ 242 1) (τ 242 2)) ok_yX3_ask ml_RX9_78 (isC_lt (isCt (by omega))) (oC (isCt (by omega))) rfl hP hS hl.1 rfl (by decide) rfl rfl (Nat.le_of_ble_eq_true rfl) ⟨Nat.zero_le _, Nat.zero_le _⟩ dX9_readAs_74 (fun H locs hP hS => ?_)
      refine lv_aload_n hx hb dX9_readAs_77 rfl (lv_at hl 1 rfl) ?_
      refine lv_dup hx hb dX9_readAs_78 rfl ?_
      refine gf S G hP 239 4 (by decide) oTX rfl inX9 (by decide) fl_RX9_31 rfl rfl dX9_readAs_79 ?_
      refine lv_tope (y := nI cc) (by unfold askM; simp only [sg_at]; simp; rw [if_neg (by omega)]; exact h4c) ?_
      refine lv_iconst (v := 1) hx hb dX9_readAs_82 (by decide) ?_
      refine nadd hx hb cc 1 dX9_readAs_83 rfl (by decide) ?_
      refine pf S G hP hS 239 4 (x := nI (cc + 1)) tyX9 tyX9_ok nmX9 (by decide) oTX rfl inX9 (by decide) fl_RX9_31 rfl rfl rfl rfl (Nat.le_of_ble_eq_true rfl) oTX dX9_readAs_84 (fun H locs hP hS => ?_)
      refine lv_iconst (v := 1) hx hb dX9_readAs_87 (by decide) ?_
      exact eZ S hr hlocks hP hS (by decide) dX9_readAs_88 (TxQ_s hkf hj hcc (by rw [← strL_len j (by omega)]; exact hτ) rfl rfl rfl)
    | succ d ih =>
      intro k hk q9 nc hpL τ hτ H locs ls hP hS hl
      have hkn : k < strL.getD j 0 := by omega
      refine lv_iload_n hx hb dX9_readAs_12 rfl (lv_at hl 0 rfl) ?_
      refine lv_aload_n hx hb dX9_readAs_13 rfl (lv_at hl 2 rfl) ?_
      refine kgfN (A := fr N0) hx hb (FC.pat hj) hS S.2.2.2.1 (va_Nw.use rfl (G.2.2.2.1 _ nw_RX9_48)) (fun _ h => h) dX9_readAs_14 ?_
      refine cKie (As := []) S G (c_J0_length_8abf5 l (D := D) (ct := ct) (ek := ek) (ad := ad) (N0 := N0) (X := X) (F := F) τ cs (by first | assumption | omega | (simp [sg_at]; assumption) | (simp [sg_at]; done)) j (show j < 14 by omega)) ok_yJ0_length_8abf5 ml_RX9_72 (vk_recv FC.str (show j < 14 by omega) hS) hP hS hl.1 rfl (by decide) rfl rfl (Nat.le_of_ble_eq_true rfl) ⟨Nat.zero_le _, Nat.zero_le _⟩ dX9_readAs_17 (fun H locs hP hS => ?_)
      refine lv_tope (y := nI (strL.getD j 0)) rfl ?_
      refine lv_icmp_ge (tgt := 46) hx hb dX9_readAs_20 (by decide) (fun c_20 => absurd c_20 (nI_ge (by omega) (by have := strL_le (show j < 14 by omega); omega))) (fun c_20 => ?_)
      have hk9 : k < strL.getD j 0 := hkn
      obtain ⟨r9, hdr⟩ := str_drop (show j < 9 by omega) hk9
      have hT : τ 240 = σ 240 := hτ.1.1 240 (by decide) (by decide)
      refine lv_aload_n hx hb dX9_readAs_23 rfl (lv_at hl 1 rfl) ?_
      refine lv_aload_n hx hb dX9_readAs_24 rfl (lv_at hl 2 rfl) ?_
      refine kgfN (A := fr N0) hx hb (FC.pat hj) hS S.2.2.2.1 (va_Nw.use rfl (G.2.2.2.1 _ nw_RX9_48)) (fun _ h => h) dX9_readAs_25 ?_
      refine lv_iload_n hx hb dX9_readAs_28 rfl (lv_at hl 0 rfl) ?_
      refine cKie (As := [.int (nI k)]) S G (c_J0_charAt_5068e l (D := D) (ct := ct) (ek := ek) (ad := ad) (N0 := N0) (X := X) (F := F) τ cs (by first | assumption | omega | (simp [sg_at]; assumption) | (simp [sg_at]; done)) j (show j < 14 by omega) k hk9) ok_yJ0_charAt_5068e ml_RX9_52 (vk_recv FC.str (show j < 14 by omega) hS) hP hS hl.1 rfl (by decide) rfl rfl (Nat.le_of_ble_eq_true rfl) ⟨Nat.zero_le _, Nat.zero_le _⟩ dX9_readAs_29 (fun H locs hP hS => ?_)
      refine cVie (As := [.int (chB j k)]) S G 239 (c_X9_readPart l (D := D) (ct := ct) (ek := ek) (ad := ad) (N0 := N0) (X := X) (F := F) τ (chB j k) q9 hτ.2.1 L ((hτ.1.2 3 (by omega)).trans hL) hpL hL6 nc hτ.2.2.1 (RdA_nc hj hτ hdr)) ok_yX9_readPart ml_RX9_75 (by decide) oTX rfl hP hS hl.1 rfl (by decide) rfl rfl (Nat.le_of_ble_eq_true rfl) ⟨Nat.zero_le _, Nat.zero_le _⟩ dX9_readAs_32 (fun H locs hP hS => ?_)
      refine lv_tope (y := ptV (σ 240) L q9 (chB j k)) (by rw [hT]) ?_
      rw [hT] at hP
      replace hP : wP D ct ek ad X (rdM τ (σ 240) L q9 nc (chB j k)) H := hP
      refine lv_if_ne (tgt := 40) hx hb dX9_readAs_35 (by decide) (fun c_35 => ?_) (fun c_35 => ?_)
      · refine lv_iinc (v := nI (k + 1)) (lv' := [(2, .int (nI (k + 1))), (0, .ref (ad 239)), (1, .ref (ek j))]) hx hb dX9_readAs_40 hl (k := 0) rfl (nI_inc _) (by decide) rfl (fun ls hl => ?_)
        refine lv_goto (tgt := 12) hx hb dX9_readAs_43 (by decide) ?_
        exact ih (k + 1) (by omega) _ _ ((pt_le hpL hL6).2) _ ((RdA_s hτ hdr c_35).choose_spec) _ _ _ hP hS (by first | (refine lv_v (lv_sub (l' := [(2, .int (nI (k + 1))), (0, .ref (ad 239)), (1, .ref (ek j))]) hl [0, 1, 2] rfl) ?_; simp [fo, c_20, c_35]; done) | exact lv_sub hl [0, 1, 2] rfl)
      · refine lv_iconst (v := 0) hx hb dX9_readAs_38 (by decide) ?_
        exact eZ S hr hlocks hP hS (by decide) dX9_readAs_39 (by obtain ⟨w1, w2, w3⟩ := RdA_f hτ hdr c_35; exact TxQ_f hkf hj hcc w1 w2 w3)
  exact key_12 (strL.getD j 0) 0 (by omega) a 0 haL _ (RdA_0 ha) _ _ _ hP hS (lv_sub hl [0, 1, 2] rfl)

theorem ok_yX9_readCommand : COK RX9 yX9_readCommand cX9_readCommand 2 (some .boolean) 0 := ⟨im_yX9_readCommand, se_RX9_yX9_readCommand, in_RX9, co_yX9_readCommand, ⟨rfl, by decide +kernel, by decide +kernel, by decide +kernel⟩, by decide⟩
set_option maxHeartbeats 1000000 in
set_option maxRecDepth 100000 in
theorem c_X9_readCommand (l : Launch) {D : va_G} {ct : Nat → ClassId} {ek ad : Nat → Nat} {N0 : Nat} {X : va_W} {F : State → Prop} (σ : Mem) (cs : Nat → Nat) (hF : ∀ U, F U → FX ek cs N0 U) (a : Nat) (ha : σ 239 6 = nI a) (L : Nat) (hL : σ 239 3 = nI L) (haL : a ≤ L) (hL6 : L ≤ 60) (cc : Nat) (hcc : σ 239 4 = nI cc) (hcc3 : cc < 30) : MI l yX9_readCommand cX9_readCommand 2 (some .boolean) 5 D ct ek ad N0 X F [.ref (ad 239)] σ (fun r τ => TxQ τ σ (σ 240) L a cc r) := by
  refine ms0 (own := RX9) (by decide) rfl (Nat.le_of_ble_eq_true rfl) (fun p e s m args below meth c S hr hlocks hnm G hP hS ls hl => ?_)
  have hx := S.1
  have hb := S.2.1
  replace hl : lv_has ls 2 [(0, .ref (ad 239))] := hl
  have FC := hF s G.2.2.2.2.2
  refine lv_iconst (v := 0) hx hb dX9_readCommand_0 (by decide) ?_
  refine lv_istore_n (lv' := [(1, .int 0), (0, .ref (ad 239))]) hx hb dX9_readCommand_1 rfl hl (by decide) rfl (fun ls hl => ?_)
  have key_2 : ∀ (d k : Nat), k + d = 8 → (kf (σ 240) L a = kfS (σ 240) L a d k) → ∀ (H : Heap) (locs : List Loc) (ls : Array Slot), wP D ct ek ad X σ H → va_S (fr N0) s.heap H locs → lv_has ls 2 [(1, .int (nI k)), (0, .ref (ad 239))] → W p l e (rmd 5 0 0) s m args below meth c H locs 0 0 (MQ below (wQi D ct ek ad N0 X (fun r τ => TxQ τ σ (σ 240) L a cc r)) args s 0 0 (fr N0)) (F0 m 2 ls []) := by
    intro d
    induction d with
    | zero =>
      intro k9 hk
      obtain rfl : 8 = k9 := by omega
      intro hs H locs ls hP hS hl
      refine lv_iload_n hx hb dX9_readCommand_2 rfl (lv_at hl 0 rfl) ?_
      refine va_getsN (A := fr N0) hx hb FC.all hS S.2.2.2.1 (va_Nw.use rfl (G.2.2.2.1 _ nw_RX9_42)) (fun _ h => h) dX9_readCommand_3 ?_
      refine va_tlen (A := fr N0) (v := 8) hx hb FC.allT hS rfl dX9_readCommand_6 ?_
      refine lv_icmp_ge (tgt := 45) hx hb dX9_readCommand_7 (by decide) (fun c_7 => ?_) (fun c_7 => absurd (by decide) c_7)
      refine lv_iconst (v := 0) hx hb dX9_readCommand_45 (by decide) ?_
      exact eZ S hr hlocks hP hS (by decide) dX9_readCommand_46 (TxQ_n (hs.trans rfl) hcc ha)
    | succ d ih =>
      intro k hk hs H locs ls hP hS hl
      have hkn : k < 8 := by omega
      refine lv_iload_n hx hb dX9_readCommand_2 rfl (lv_at hl 0 rfl) ?_
      refine va_getsN (A := fr N0) hx hb FC.all hS S.2.2.2.1 (va_Nw.use rfl (G.2.2.2.1 _ nw_RX9_42)) (fun _ h => h) dX9_readCommand_3 ?_
      refine va_tlen (A := fr N0) (v := 8) hx hb FC.allT hS rfl dX9_readCommand_6 ?_
      refine lv_icmp_ge (tgt := 45) hx hb dX9_readCommand_7 (by decide) (fun c_7 => absurd c_7 (nI_ge (b := 8) (by omega) (by omega))) (fun c_7 => ?_)
      have hk8 : k < 8 := hkn
      refine lv_aload_n hx hb dX9_readCommand_10 rfl (lv_at hl 1 rfl) ?_
      refine va_getsN (A := fr N0) hx hb FC.all hS S.2.2.2.1 (va_Nw.use rfl (G.2.2.2.1 _ nw_RX9_42)) (fun _ h => h) dX9_readCommand_11 ?_
      refine lv_iload_n hx hb dX9_readCommand_14 rfl (lv_at hl 0 rfl) ?_
      refine kald (A := fr N0) (f := ek) hx hb FC.allT hS k rfl hk8 (by decide) dX9_readCommand_15 ?_
      refine kgfN (A := fr N0) hx hb (FC.pat hk8) hS S.2.2.2.1 (va_Nw.use rfl (G.2.2.2.1 _ nw_RX9_48)) (fun _ h => h) dX9_readCommand_16 ?_
      refine lv_iconst (v := 0) hx hb dX9_readCommand_19 (by decide) ?_
      refine cKie (As := [.int (nI 0)]) S G (c_J0_charAt_5068e l (D := D) (ct := ct) (ek := ek) (ad := ad) (N0 := N0) (X := X) (F := F) σ cs (by first | assumption | omega | (simp [sg_at]; assumption) | (simp [sg_at]; done)) k (show k < 14 by omega) 0 (by rw [strL_len k (by omega)]; exact str_pos k (by omega))) ok_yJ0_charAt_5068e ml_RX9_52 (vk_recv FC.str (show k < 14 by omega) hS) hP hS hl.1 rfl (by decide) rfl rfl (Nat.le_of_ble_eq_true rfl) ⟨Nat.zero_le _, Nat.zero_le _⟩ dX9_readCommand_20 (fun H locs hP hS => ?_)
      refine cVie (As := [.int (chB k 0)]) S G 239 (c_X9_isNext l (D := D) (ct := ct) (ek := ek) (ad := ad) (N0 := N0) (X := X) (F := F) σ (chB k 0) a (by first | assumption | omega | (simp [sg_at]; assumption) | (simp [sg_at]; done)) L (by first | assumption | omega | (simp [sg_at]; assumption) | (simp [sg_at]; done)) (by omega) (by omega)) ok_yX9_isNext ml_RX9_58 (by decide) oTX rfl hP hS hl.1 rfl (by decide) rfl rfl (Nat.le_of_ble_eq_true rfl) ⟨Nat.zero_le _, Nat.zero_le _⟩ dX9_readCommand_23 (fun H locs hP hS => ?_)
      refine lv_if_eq (tgt := 39) hx hb dX9_readCommand_26 (by decide) (fun c_26 => ?_) (fun c_26 => ?_)
      · refine lv_iinc (v := nI (k + 1)) (lv' := [(1, .int (nI (k + 1))), (0, .ref (ad 239))]) hx hb dX9_readCommand_39 hl (k := 0) rfl (nI_inc _) (by decide) rfl (fun ls hl => ?_)
        refine lv_goto (tgt := 2) hx hb dX9_readCommand_42 (by decide) ?_
        exact ih (k + 1) (by omega) (by rw [hs, kfS_s, if_pos c_26]) _ _ _ hP hS (by first | (refine lv_v (lv_sub (l' := [(1, .int (nI (k + 1))), (0, .ref (ad 239))]) hl [0, 1] rfl) ?_; simp [fo, c_7, c_26]; done) | exact lv_sub hl [0, 1] rfl)
      · have hkk : kf (σ 240) L a = k := by rw [hs, kfS_s, if_neg c_26]
        refine lv_aload_n hx hb dX9_readCommand_29 rfl (lv_at hl 1 rfl) ?_
        refine va_getsN (A := fr N0) hx hb FC.all hS S.2.2.2.1 (va_Nw.use rfl (G.2.2.2.1 _ nw_RX9_42)) (fun _ h => h) dX9_readCommand_30 ?_
        refine lv_iload_n hx hb dX9_readCommand_33 rfl (lv_at hl 0 rfl) ?_
        refine kald (A := fr N0) (f := ek) hx hb FC.allT hS k rfl hk8 (by decide) dX9_readCommand_34 ?_
        refine cVi (As := [.ref (ek k)]) S G 239 (c_X9_readAs l (D := D) (ct := ct) (ek := ek) (ad := ad) (N0 := N0) (X := X) (F := F) σ cs (by first | assumption | omega | (simp [sg_at]; assumption) | (simp [sg_at]; done)) k hk8 a (by first | assumption | omega | (simp [sg_at]; assumption) | (simp [sg_at]; done)) L (by first | assumption | omega | (simp [sg_at]; assumption) | (simp [sg_at]; done)) (by omega) (by omega) cc (by first | assumption | omega | (simp [sg_at]; assumption) | (simp [sg_at]; done)) (by omega) hkk) ok_yX9_readAs ml_RX9_61 (by decide) oTX rfl hP hS hl.1 rfl (by decide) rfl rfl (Nat.le_of_ble_eq_true rfl) ⟨Nat.zero_le _, Nat.zero_le _⟩ dX9_readCommand_35 (fun r_5 τ_6 H locs hp_r_5 hP hS => ?_)
        have hr9 := hp_r_5
        refine eZ S hr hlocks hP hS (by rw [hr9.1]; exact cmV_nar) dX9_readCommand_38 ?_
        exact hr9
  exact key_2 8 0 (by omega) rfl _ _ _ hP hS (lv_sub hl [0, 1] rfl)

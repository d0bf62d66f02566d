/-! People: the walks (laid by wip/p43/spec_people.py) -/
theorem ok_yX8_isTilt : COKs RX8 yX8_isTilt cX8_isTilt 1 (some .boolean) 1 := ⟨sm_yX8_isTilt, in_RX8, co_yX8_isTilt, ⟨rfl, by decide +kernel, by decide +kernel, by decide +kernel⟩, by decide⟩
set_option maxHeartbeats 1000000 in
set_option maxRecDepth 100000 in
theorem c_X8_isTilt (l : Launch) {D : va_G} {ct : Nat → ClassId} {ek ad : Nat → Nat} {N0 : Nat} {X : va_W} {F : State → Prop} (σ : Mem) (x : Int32) : MI l yX8_isTilt cX8_isTilt 1 (some .boolean) 0 D ct ek ad N0 X F [.int x] σ (fun r τ => r = rngB x (-20) 20 ∧ τ = σ) := by
  refine ms0 (own := RX8) (by decide) rfl (Nat.le_of_ble_eq_true rfl) (fun p e s m args below meth c S hr hlocks hnm G hP hS ls hl => ?_)
  have hx := S.1
  have hb := S.2.1
  replace hl : lv_has ls 1 [(0, .int x)] := hl
  refine lv_iload_n hx hb dX8_isTilt_0 rfl (lv_at hl 0 rfl) ?_
  refine lv_bipush (v := (-20)) hx hb dX8_isTilt_1 (by decide) ?_
  refine lv_icmp_lt (tgt := 16) hx hb dX8_isTilt_3 (by decide) (fun c_3 => ?_) (fun c_3 => ?_)
  · refine lv_iconst (v := 0) hx hb dX8_isTilt_16 (by decide) ?_
    exact eZ S hr hlocks hP hS (by decide) dX8_isTilt_17 (by first | (refine ⟨?_, ?_⟩ <;> simp only [rngB, c_3, ↓reduceIte, if_true, if_false, eq_self]; done) | (refine ⟨?_, rfl⟩; simp only [rngB, c_3, ↓reduceIte, if_true, if_false, eq_self]; done) | exact ⟨rfl, rfl⟩ | (refine ⟨?_, rfl⟩; simp [rngB, c_3]; done) | (simp [rngB, c_3]; done) | grind [rngB])
  · refine lv_iload_n hx hb dX8_isTilt_6 rfl (lv_at hl 0 rfl) ?_
    refine lv_bipush (v := 20) hx hb dX8_isTilt_7 (by decide) ?_
    refine lv_icmp_gt (tgt := 16) hx hb dX8_isTilt_9 (by decide) (fun c_9 => ?_) (fun c_9 => ?_)
    · refine lv_iconst (v := 0) hx hb dX8_isTilt_16 (by decide) ?_
      exact eZ S hr hlocks hP hS (by decide) dX8_isTilt_17 (by first | (refine ⟨?_, ?_⟩ <;> simp only [rngB, c_3, c_9, ↓reduceIte, if_true, if_false, eq_self]; done) | (refine ⟨?_, rfl⟩; simp only [rngB, c_3, c_9, ↓reduceIte, if_true, if_false, eq_self]; done) | exact ⟨rfl, rfl⟩ | (refine ⟨?_, rfl⟩; simp [rngB, c_3, c_9]; done) | (simp [rngB, c_3, c_9]; done) | grind [rngB])
    · refine lv_iconst (v := 1) hx hb dX8_isTilt_12 (by decide) ?_
      refine lv_goto (tgt := 17) hx hb dX8_isTilt_13 (by decide) ?_
      exact eZ S hr hlocks hP hS (by decide) dX8_isTilt_17 (by first | (refine ⟨?_, ?_⟩ <;> simp only [rngB, c_3, c_9, ↓reduceIte, if_true, if_false, eq_self]; done) | (refine ⟨?_, rfl⟩; simp only [rngB, c_3, c_9, ↓reduceIte, if_true, if_false, eq_self]; done) | exact ⟨rfl, rfl⟩ | (refine ⟨?_, rfl⟩; simp [rngB, c_3, c_9]; done) | (simp [rngB, c_3, c_9]; done) | grind [rngB])

theorem ok_yX8_isHabit : COKs RX8 yX8_isHabit cX8_isHabit 1 (some .boolean) 1 := ⟨sm_yX8_isHabit, in_RX8, co_yX8_isHabit, ⟨rfl, by decide +kernel, by decide +kernel, by decide +kernel⟩, by decide⟩
set_option maxHeartbeats 1000000 in
set_option maxRecDepth 100000 in
theorem c_X8_isHabit (l : Launch) {D : va_G} {ct : Nat → ClassId} {ek ad : Nat → Nat} {N0 : Nat} {X : va_W} {F : State → Prop} (σ : Mem) (x : Int32) : MI l yX8_isHabit cX8_isHabit 1 (some .boolean) 0 D ct ek ad N0 X F [.int x] σ (fun r τ => r = rngB x 0 9 ∧ τ = σ) := by
  refine ms0 (own := RX8) (by decide) rfl (Nat.le_of_ble_eq_true rfl) (fun p e s m args below meth c S hr hlocks hnm G hP hS ls hl => ?_)
  have hx := S.1
  have hb := S.2.1
  replace hl : lv_has ls 1 [(0, .int x)] := hl
  refine lv_iload_n hx hb dX8_isHabit_0 rfl (lv_at hl 0 rfl) ?_
  refine lv_if_lt (tgt := 14) hx hb dX8_isHabit_1 (by decide) (fun c_1 => ?_) (fun c_1 => ?_)
  · refine lv_iconst (v := 0) hx hb dX8_isHabit_14 (by decide) ?_
    exact eZ S hr hlocks hP hS (by decide) dX8_isHabit_15 (by first | (refine ⟨?_, ?_⟩ <;> simp only [rngB, c_1, ↓reduceIte, if_true, if_false, eq_self]; done) | (refine ⟨?_, rfl⟩; simp only [rngB, c_1, ↓reduceIte, if_true, if_false, eq_self]; done) | exact ⟨rfl, rfl⟩ | (refine ⟨?_, rfl⟩; simp [rngB, c_1]; done) | (simp [rngB, c_1]; done) | grind [rngB])
  · refine lv_iload_n hx hb dX8_isHabit_4 rfl (lv_at hl 0 rfl) ?_
    refine lv_bipush (v := 9) hx hb dX8_isHabit_5 (by decide) ?_
    refine lv_icmp_gt (tgt := 14) hx hb dX8_isHabit_7 (by decide) (fun c_7 => ?_) (fun c_7 => ?_)
    · refine lv_iconst (v := 0) hx hb dX8_isHabit_14 (by decide) ?_
      exact eZ S hr hlocks hP hS (by decide) dX8_isHabit_15 (by first | (refine ⟨?_, ?_⟩ <;> simp only [rngB, c_1, c_7, ↓reduceIte, if_true, if_false, eq_self]; done) | (refine ⟨?_, rfl⟩; simp only [rngB, c_1, c_7, ↓reduceIte, if_true, if_false, eq_self]; done) | exact ⟨rfl, rfl⟩ | (refine ⟨?_, rfl⟩; simp [rngB, c_1, c_7]; done) | (simp [rngB, c_1, c_7]; done) | grind [rngB])
    · refine lv_iconst (v := 1) hx hb dX8_isHabit_10 (by decide) ?_
      refine lv_goto (tgt := 15) hx hb dX8_isHabit_11 (by decide) ?_
      exact eZ S hr hlocks hP hS (by decide) dX8_isHabit_15 (by first | (refine ⟨?_, ?_⟩ <;> simp only [rngB, c_1, c_7, ↓reduceIte, if_true, if_false, eq_self]; done) | (refine ⟨?_, rfl⟩; simp only [rngB, c_1, c_7, ↓reduceIte, if_true, if_false, eq_self]; done) | exact ⟨rfl, rfl⟩ | (refine ⟨?_, rfl⟩; simp [rngB, c_1, c_7]; done) | (simp [rngB, c_1, c_7]; done) | grind [rngB])

theorem ok_yX8_isWeight : COKs RX8 yX8_isWeight cX8_isWeight 1 (some .boolean) 1 := ⟨sm_yX8_isWeight, in_RX8, co_yX8_isWeight, ⟨rfl, by decide +kernel, by decide +kernel, by decide +kernel⟩, by decide⟩
set_option maxHeartbeats 1000000 in
set_option maxRecDepth 100000 in
theorem c_X8_isWeight (l : Launch) {D : va_G} {ct : Nat → ClassId} {ek ad : Nat → Nat} {N0 : Nat} {X : va_W} {F : State → Prop} (σ : Mem) (x : Int32) : MI l yX8_isWeight cX8_isWeight 1 (some .boolean) 0 D ct ek ad N0 X F [.int x] σ (fun r τ => r = rngB x 0 9 ∧ τ = σ) := by
  refine ms0 (own := RX8) (by decide) rfl (Nat.le_of_ble_eq_true rfl) (fun p e s m args below meth c S hr hlocks hnm G hP hS ls hl => ?_)
  have hx := S.1
  have hb := S.2.1
  replace hl : lv_has ls 1 [(0, .int x)] := hl
  refine lv_iload_n hx hb dX8_isWeight_0 rfl (lv_at hl 0 rfl) ?_
  refine lv_if_lt (tgt := 14) hx hb dX8_isWeight_1 (by decide) (fun c_1 => ?_) (fun c_1 => ?_)
  · refine lv_iconst (v := 0) hx hb dX8_isWeight_14 (by decide) ?_
    exact eZ S hr hlocks hP hS (by decide) dX8_isWeight_15 (by first | (refine ⟨?_, ?_⟩ <;> simp only [rngB, c_1, ↓reduceIte, if_true, if_false, eq_self]; done) | (refine ⟨?_, rfl⟩; simp only [rngB, c_1, ↓reduceIte, if_true, if_false, eq_self]; done) | exact ⟨rfl, rfl⟩ | (refine ⟨?_, rfl⟩; simp [rngB, c_1]; done) | (simp [rngB, c_1]; done) | grind [rngB])
  · refine lv_iload_n hx hb dX8_isWeight_4 rfl (lv_at hl 0 rfl) ?_
    refine lv_bipush (v := 9) hx hb dX8_isWeight_5 (by decide) ?_
    refine lv_icmp_gt (tgt := 14) hx hb dX8_isWeight_7 (by decide) (fun c_7 => ?_) (fun c_7 => ?_)
    · refine lv_iconst (v := 0) hx hb dX8_isWeight_14 (by decide) ?_
      exact eZ S hr hlocks hP hS (by decide) dX8_isWeight_15 (by first | (refine ⟨?_, ?_⟩ <;> simp only [rngB, c_1, c_7, ↓reduceIte, if_true, if_false, eq_self]; done) | (refine ⟨?_, rfl⟩; simp only [rngB, c_1, c_7, ↓reduceIte, if_true, if_false, eq_self]; done) | exact ⟨rfl, rfl⟩ | (refine ⟨?_, rfl⟩; simp [rngB, c_1, c_7]; done) | (simp [rngB, c_1, c_7]; done) | grind [rngB])
    · refine lv_iconst (v := 1) hx hb dX8_isWeight_10 (by decide) ?_
      refine lv_goto (tgt := 15) hx hb dX8_isWeight_11 (by decide) ?_
      exact eZ S hr hlocks hP hS (by decide) dX8_isWeight_15 (by first | (refine ⟨?_, ?_⟩ <;> simp only [rngB, c_1, c_7, ↓reduceIte, if_true, if_false, eq_self]; done) | (refine ⟨?_, rfl⟩; simp only [rngB, c_1, c_7, ↓reduceIte, if_true, if_false, eq_self]; done) | exact ⟨rfl, rfl⟩ | (refine ⟨?_, rfl⟩; simp [rngB, c_1, c_7]; done) | (simp [rngB, c_1, c_7]; done) | grind [rngB])

theorem ok_yX8_isStrength : COKs RX8 yX8_isStrength cX8_isStrength 1 (some .boolean) 1 := ⟨sm_yX8_isStrength, in_RX8, co_yX8_isStrength, ⟨rfl, by decide +kernel, by decide +kernel, by decide +kernel⟩, by decide⟩
set_option maxHeartbeats 1000000 in
set_option maxRecDepth 100000 in
theorem c_X8_isStrength (l : Launch) {D : va_G} {ct : Nat → ClassId} {ek ad : Nat → Nat} {N0 : Nat} {X : va_W} {F : State → Prop} (σ : Mem) (x : Int32) : MI l yX8_isStrength cX8_isStrength 1 (some .boolean) 0 D ct ek ad N0 X F [.int x] σ (fun r τ => r = rngB x 1 9 ∧ τ = σ) := by
  refine ms0 (own := RX8) (by decide) rfl (Nat.le_of_ble_eq_true rfl) (fun p e s m args below meth c S hr hlocks hnm G hP hS ls hl => ?_)
  have hx := S.1
  have hb := S.2.1
  replace hl : lv_has ls 1 [(0, .int x)] := hl
  refine lv_iload_n hx hb dX8_isStrength_0 rfl (lv_at hl 0 rfl) ?_
  refine lv_iconst (v := 1) hx hb dX8_isStrength_1 (by decide) ?_
  refine lv_icmp_lt (tgt := 15) hx hb dX8_isStrength_2 (by decide) (fun c_2 => ?_) (fun c_2 => ?_)
  · refine lv_iconst (v := 0) hx hb dX8_isStrength_15 (by decide) ?_
    exact eZ S hr hlocks hP hS (by decide) dX8_isStrength_16 (by first | (refine ⟨?_, ?_⟩ <;> simp only [rngB, c_2, ↓reduceIte, if_true, if_false, eq_self]; done) | (refine ⟨?_, rfl⟩; simp only [rngB, c_2, ↓reduceIte, if_true, if_false, eq_self]; done) | exact ⟨rfl, rfl⟩ | (refine ⟨?_, rfl⟩; simp [rngB, c_2]; done) | (simp [rngB, c_2]; done) | grind [rngB])
  · refine lv_iload_n hx hb dX8_isStrength_5 rfl (lv_at hl 0 rfl) ?_
    refine lv_bipush (v := 9) hx hb dX8_isStrength_6 (by decide) ?_
    refine lv_icmp_gt (tgt := 15) hx hb dX8_isStrength_8 (by decide) (fun c_8 => ?_) (fun c_8 => ?_)
    · refine lv_iconst (v := 0) hx hb dX8_isStrength_15 (by decide) ?_
      exact eZ S hr hlocks hP hS (by decide) dX8_isStrength_16 (by first | (refine ⟨?_, ?_⟩ <;> simp only [rngB, c_2, c_8, ↓reduceIte, if_true, if_false, eq_self]; done) | (refine ⟨?_, rfl⟩; simp only [rngB, c_2, c_8, ↓reduceIte, if_true, if_false, eq_self]; done) | exact ⟨rfl, rfl⟩ | (refine ⟨?_, rfl⟩; simp [rngB, c_2, c_8]; done) | (simp [rngB, c_2, c_8]; done) | grind [rngB])
    · refine lv_iconst (v := 1) hx hb dX8_isStrength_11 (by decide) ?_
      refine lv_goto (tgt := 16) hx hb dX8_isStrength_12 (by decide) ?_
      exact eZ S hr hlocks hP hS (by decide) dX8_isStrength_16 (by first | (refine ⟨?_, ?_⟩ <;> simp only [rngB, c_2, c_8, ↓reduceIte, if_true, if_false, eq_self]; done) | (refine ⟨?_, rfl⟩; simp only [rngB, c_2, c_8, ↓reduceIte, if_true, if_false, eq_self]; done) | exact ⟨rfl, rfl⟩ | (refine ⟨?_, rfl⟩; simp [rngB, c_2, c_8]; done) | (simp [rngB, c_2, c_8]; done) | grind [rngB])

theorem ok_yX8_holds : COK RX8 yX8_holds cX8_holds 2 (some .boolean) 1 := ⟨im_yX8_holds, se_RX8_yX8_holds, in_RX8, co_yX8_holds, ⟨rfl, by decide +kernel, by decide +kernel, by decide +kernel⟩, by decide⟩
set_option maxHeartbeats 1000000 in
set_option maxRecDepth 100000 in
theorem c_X8_holds (l : Launch) {D : va_G} {ct : Nat → ClassId} {ek ad : Nat → Nat} {N0 : Nat} {X : va_W} {F : State → Prop} (σ : Mem) (pb : Nat) (hpb : isP pb) (x : Int32) : MI l yX8_holds cX8_holds 2 (some .boolean) 0 D ct ek ad N0 X F [.ref (ad pb), .int x] σ (fun r τ => r = holdB x (σ pb 7) ∧ τ = σ) := by
  refine ms0 (own := RX8) (by decide) rfl (Nat.le_of_ble_eq_true rfl) (fun p e s m args below meth c S hr hlocks hnm G hP hS ls hl => ?_)
  have hx := S.1
  have hb := S.2.1
  replace hl : lv_has ls 2 [(0, .ref (ad pb)), (1, .int x)] := hl
  refine lv_iload_n hx hb dX8_holds_0 rfl (lv_at hl 1 rfl) ?_
  refine lv_if_lt (tgt := 16) hx hb dX8_holds_1 (by decide) (fun c_1 => ?_) (fun c_1 => ?_)
  · refine lv_iconst (v := 0) hx hb dX8_holds_16 (by decide) ?_
    exact eZ S hr hlocks hP hS (by decide) dX8_holds_17 (by first | (refine ⟨?_, ?_⟩ <;> simp only [holdB, c_1, ↓reduceIte, if_true, if_false, eq_self]; done) | (refine ⟨?_, rfl⟩; simp only [holdB, c_1, ↓reduceIte, if_true, if_false, eq_self]; done) | exact ⟨rfl, rfl⟩ | (refine ⟨?_, rfl⟩; simp [holdB, c_1]; done) | (simp [holdB, c_1]; done) | grind [holdB])
  · refine lv_iload_n hx hb dX8_holds_4 rfl (lv_at hl 1 rfl) ?_
    refine lv_aload_n hx hb dX8_holds_5 rfl (lv_at hl 0 rfl) ?_
    refine gf S G hP pb 7 (isPl0 hpb) (oP hpb) rfl inX8 (by decide) fl_RX8_40 rfl rfl dX8_holds_6 ?_
    refine lv_icmp_ge (tgt := 16) hx hb dX8_holds_9 (by decide) (fun c_9 => ?_) (fun c_9 => ?_)
    · refine lv_iconst (v := 0) hx hb dX8_holds_16 (by decide) ?_
      exact eZ S hr hlocks hP hS (by decide) dX8_holds_17 (by first | (refine ⟨?_, ?_⟩ <;> simp only [holdB, c_1, c_9, ↓reduceIte, if_true, if_false, eq_self]; done) | (refine ⟨?_, rfl⟩; simp only [holdB, c_1, c_9, ↓reduceIte, if_true, if_false, eq_self]; done) | exact ⟨rfl, rfl⟩ | (refine ⟨?_, rfl⟩; simp [holdB, c_1, c_9]; done) | (simp [holdB, c_1, c_9]; done) | grind [holdB])
    · refine lv_iconst (v := 1) hx hb dX8_holds_12 (by decide) ?_
      refine lv_goto (tgt := 17) hx hb dX8_holds_13 (by decide) ?_
      exact eZ S hr hlocks hP hS (by decide) dX8_holds_17 (by first | (refine ⟨?_, ?_⟩ <;> simp only [holdB, c_1, c_9, ↓reduceIte, if_true, if_false, eq_self]; done) | (refine ⟨?_, rfl⟩; simp only [holdB, c_1, c_9, ↓reduceIte, if_true, if_false, eq_self]; done) | exact ⟨rfl, rfl⟩ | (refine ⟨?_, rfl⟩; simp [holdB, c_1, c_9]; done) | (simp [holdB, c_1, c_9]; done) | grind [holdB])

theorem ok_yX8_isFull : COK RX8 yX8_isFull cX8_isFull 1 (some .boolean) 0 := ⟨im_yX8_isFull, se_RX8_yX8_isFull, in_RX8, co_yX8_isFull, ⟨rfl, by decide +kernel, by decide +kernel, by decide +kernel⟩, by decide⟩
set_option maxHeartbeats 1000000 in
set_option maxRecDepth 100000 in
theorem c_X8_isFull (l : Launch) {D : va_G} {ct : Nat → ClassId} {ek ad : Nat → Nat} {N0 : Nat} {X : va_W} {F : State → Prop} (σ : Mem) (pb : Nat) (hpb : isP pb) : MI l yX8_isFull cX8_isFull 1 (some .boolean) 0 D ct ek ad N0 X F [.ref (ad pb)] σ (fun r τ => r = (if σ pb 7 < 6 then 0 else 1) ∧ τ = σ) := by
  refine ms0 (own := RX8) (by decide) rfl (Nat.le_of_ble_eq_true rfl) (fun p e s m args below meth c S hr hlocks hnm G hP hS ls hl => ?_)
  have hx := S.1
  have hb := S.2.1
  replace hl : lv_has ls 1 [(0, .ref (ad pb))] := hl
  refine lv_aload_n hx hb dX8_isFull_0 rfl (lv_at hl 0 rfl) ?_
  refine gf S G hP pb 7 (isPl0 hpb) (oP hpb) rfl inX8 (by decide) fl_RX8_40 rfl rfl dX8_isFull_1 ?_
  refine lv_bipush (v := 6) hx hb dX8_isFull_4 (by decide) ?_
  refine lv_icmp_lt (tgt := 13) hx hb dX8_isFull_6 (by decide) (fun c_6 => ?_) (fun c_6 => ?_)
  · refine lv_iconst (v := 0) hx hb dX8_isFull_13 (by decide) ?_
    exact eZ S hr hlocks hP hS (by decide) dX8_isFull_14 (by first | exact ⟨rfl, rfl⟩ | (refine ⟨?_, rfl⟩; simp [c_6]; done) | (simp [c_6]; done) | (simp only [c_6, ↓reduceIte, if_true, if_false, and_self, true_and]; done) | grind [])
  · refine lv_iconst (v := 1) hx hb dX8_isFull_9 (by decide) ?_
    refine lv_goto (tgt := 14) hx hb dX8_isFull_10 (by decide) ?_
    exact eZ S hr hlocks hP hS (by decide) dX8_isFull_14 (by first | exact ⟨rfl, rfl⟩ | (refine ⟨?_, rfl⟩; simp [c_6]; done) | (simp [c_6]; done) | (simp only [c_6, ↓reduceIte, if_true, if_false, and_self, true_and]; done) | grind [])

theorem ok_yX8_admit : COK RX8 yX8_admit cX8_admit 4 (some .int) 2 := ⟨im_yX8_admit, se_RX8_yX8_admit, in_RX8, co_yX8_admit, ⟨rfl, by decide +kernel, by decide +kernel, by decide +kernel⟩, by decide⟩
set_option maxHeartbeats 1000000 in
set_option maxRecDepth 100000 in
theorem c_X8_admit (l : Launch) {D : va_G} {ct : Nat → ClassId} {ek ad : Nat → Nat} {N0 : Nat} {X : va_W} {F : State → Prop} (σ : Mem) (pb : Nat) (hpb : isP pb) (t : Int32) (b : Int32) (hb9 : vp_nar .boolean b = b) (n : Nat) (hn : σ pb 7 = nI n) (hn6 : n < 6) : MI l yX8_admit cX8_admit 4 (some .int) 0 D ct ek ad N0 X F [.ref (ad pb), .int t, .int b] σ (fun r τ => r = nI n ∧ τ = sg (sg (sg σ (pb + 1) n t) (pb + 3) n b) pb 7 (nI (n + 1))) := by
  refine ms0 (own := RX8) (by decide) rfl (Nat.le_of_ble_eq_true rfl) (fun p e s m args below meth c S hr hlocks hnm G hP hS ls hl => ?_)
  have hx := S.1
  have hb := S.2.1
  replace hl : lv_has ls 4 [(0, .ref (ad pb)), (1, .int t), (2, .int b)] := hl
  refine lv_aload_n hx hb dX8_admit_0 rfl (lv_at hl 0 rfl) ?_
  refine gf S G hP pb 7 (isPl0 hpb) (oP hpb) rfl inX8 (by decide) fl_RX8_40 rfl rfl dX8_admit_1 ?_
  refine lv_istore_n (lv' := [(3, .int (σ pb 7)), (0, .ref (ad pb)), (1, .int t), (2, .int b)]) hx hb dX8_admit_4 rfl hl (by decide) rfl (fun ls hl => ?_)
  refine lv_aload_n hx hb dX8_admit_5 rfl (lv_at hl 1 rfl) ?_
  refine gf S G hP pb 0 (isPl0 hpb) (oP hpb) rfl inX8 (by decide) fl_RX8_9 rfl rfl dX8_admit_6 ?_
  refine lv_iload_n hx hb dX8_admit_9 rfl (lv_at hl 0 rfl) ?_
  refine lv_iload_n hx hb dX8_admit_10 rfl (lv_at hl 2 rfl) ?_
  refine ast S G hP hS (pb + 1) n (isPl hpb (by decide)) (aP1 hpb) (by simp [sg_at, hn]) (by omega) (by decide) dX8_admit_11 (fun H locs hP hS => ?_)
  refine lv_aload_n hx hb dX8_admit_12 rfl (lv_at hl 1 rfl) ?_
  refine gf S G hP pb 2 (isPl0 hpb) (oP hpb) rfl inX8 (by decide) fl_RX8_16 rfl rfl dX8_admit_13 ?_
  refine lv_iload_n hx hb dX8_admit_16 rfl (lv_at hl 0 rfl) ?_
  refine lv_iload_n hx hb dX8_admit_17 rfl (lv_at hl 3 rfl) ?_
  refine zst S G hP hS (pb + 3) n (isPl hpb (by decide)) (aP3 hpb) (by simp [sg_at, hn]) (by omega) (by decide) hb9 dX8_admit_18 (fun H locs hP hS => ?_)
  refine lv_aload_n hx hb dX8_admit_19 rfl (lv_at hl 1 rfl) ?_
  refine lv_dup hx hb dX8_admit_20 rfl ?_
  refine gf S G hP pb 7 (isPl0 hpb) (oP hpb) rfl inX8 (by decide) fl_RX8_40 rfl rfl dX8_admit_21 ?_
  refine lv_iconst (v := 1) hx hb dX8_admit_24 (by decide) ?_
  refine nadd hx hb n 1 dX8_admit_25 (by simp [sg_at, hn]) (by decide) ?_
  refine pf S G hP hS pb 7 (x := nI (n + 1)) tyX8 tyX8_ok nmX8 (isPl0 hpb) (oP hpb) rfl inX8 (by decide) fl_RX8_40 rfl rfl rfl rfl (Nat.le_of_ble_eq_true rfl) (oP hpb) dX8_admit_26 (fun H locs hP hS => ?_)
  refine lv_iload_n hx hb dX8_admit_29 rfl (lv_at hl 0 rfl) ?_
  exact eI S hr hlocks hP hS dX8_admit_30 (by first | exact ⟨rfl, rfl⟩ | (refine ⟨?_, rfl⟩; simp [hn]; done) | (simp [hn]; done) | (simp only [hn, ↓reduceIte, if_true, if_false, and_self, true_and]; done) | grind [hn])

theorem ok_yX8_setWeight : COK RX8 yX8_setWeight cX8_setWeight 5 (some .int) 3 := ⟨im_yX8_setWeight, se_RX8_yX8_setWeight, in_RX8, co_yX8_setWeight, ⟨rfl, by decide +kernel, by decide +kernel, by decide +kernel⟩, by decide⟩
set_option maxHeartbeats 1000000 in
set_option maxRecDepth 100000 in
theorem c_X8_setWeight (l : Launch) {D : va_G} {ct : Nat → ClassId} {ek ad : Nat → Nat} {N0 : Nat} {X : va_W} {F : State → Prop} (σ : Mem) (pb : Nat) (hpb : isP pb) (i : Nat) (hi : i < 6) (j : Nat) (hj : j < 6) (w : Int32) : MI l yX8_setWeight cX8_setWeight 5 (some .int) 0 D ct ek ad N0 X F [.ref (ad pb), .int (nI i), .int (nI j), .int w] σ (fun r τ => r = σ (pb + 7 + i) j ∧ τ = sg (sg σ (pb + 7 + i) j w) (pb + 7 + j) i w) := by
  refine ms0 (own := RX8) (by decide) rfl (Nat.le_of_ble_eq_true rfl) (fun p e s m args below meth c S hr hlocks hnm G hP hS ls hl => ?_)
  have hx := S.1
  have hb := S.2.1
  replace hl : lv_has ls 5 [(0, .ref (ad pb)), (1, .int (nI i)), (2, .int (nI j)), (3, .int w)] := hl
  refine lv_aload_n hx hb dX8_setWeight_0 rfl (lv_at hl 0 rfl) ?_
  refine gf S G hP pb 5 (isPl0 hpb) (oP hpb) rfl inX8 (by decide) fl_RX8_28 rfl rfl dX8_setWeight_1 ?_
  refine lv_iload_n hx hb dX8_setWeight_4 rfl (lv_at hl 1 rfl) ?_
  refine gld S G hP (pb + 6) i (isPl hpb (by decide)) ((gP6 hpb) _) rfl (by omega) (by decide) (if_pos (by omega)) dX8_setWeight_5 ?_
  refine lv_iload_n hx hb dX8_setWeight_6 rfl (lv_at hl 2 rfl) ?_
  refine ald S G hP (pb + 7 + i) j (isPlw hpb (by omega)) ((aPw hpb (by omega)) _) rfl (by omega) (by decide) dX8_setWeight_7 ?_
  refine lv_istore (lv' := [(4, .int (σ (pb + 7 + i) j)), (0, .ref (ad pb)), (1, .int (nI i)), (2, .int (nI j)), (3, .int w)]) hx hb dX8_setWeight_8 hl (by decide) rfl (fun ls hl => ?_)
  refine lv_aload_n hx hb dX8_setWeight_10 rfl (lv_at hl 1 rfl) ?_
  refine gf S G hP pb 5 (isPl0 hpb) (oP hpb) rfl inX8 (by decide) fl_RX8_28 rfl rfl dX8_setWeight_11 ?_
  refine lv_iload_n hx hb dX8_setWeight_14 rfl (lv_at hl 2 rfl) ?_
  refine gld S G hP (pb + 6) i (isPl hpb (by decide)) ((gP6 hpb) _) rfl (by omega) (by decide) (if_pos (by omega)) dX8_setWeight_15 ?_
  refine lv_iload_n hx hb dX8_setWeight_16 rfl (lv_at hl 3 rfl) ?_
  refine lv_iload_n hx hb dX8_setWeight_17 rfl (lv_at hl 4 rfl) ?_
  refine ast S G hP hS (pb + 7 + i) j (isPlw hpb (by omega)) (aPw hpb (by omega)) rfl (by omega) (by decide) dX8_setWeight_18 (fun H locs hP hS => ?_)
  refine lv_aload_n hx hb dX8_setWeight_19 rfl (lv_at hl 1 rfl) ?_
  refine gf S G hP pb 5 (isPl0 hpb) (oP hpb) rfl inX8 (by decide) fl_RX8_28 rfl rfl dX8_setWeight_20 ?_
  refine lv_iload_n hx hb dX8_setWeight_23 rfl (lv_at hl 3 rfl) ?_
  refine gld S G hP (pb + 6) j (isPl hpb (by decide)) ((gP6 hpb) _) rfl (by omega) (by decide) (if_pos (by omega)) dX8_setWeight_24 ?_
  refine lv_iload_n hx hb dX8_setWeight_25 rfl (lv_at hl 2 rfl) ?_
  refine lv_iload_n hx hb dX8_setWeight_26 rfl (lv_at hl 4 rfl) ?_
  refine ast S G hP hS (pb + 7 + j) i (isPlw hpb (by omega)) (aPw hpb (by omega)) rfl (by omega) (by decide) dX8_setWeight_27 (fun H locs hP hS => ?_)
  refine lv_iload hx hb dX8_setWeight_28 (lv_at hl 0 rfl) ?_
  exact eI S hr hlocks hP hS dX8_setWeight_30 (by first | exact ⟨rfl, rfl⟩ | (refine ⟨?_, rfl⟩; simp []; done) | (simp []; done) | (simp only [↓reduceIte, if_true, if_false, and_self, true_and]; done) | grind [])

theorem ok_yX8_setHabit : COK RX8 yX8_setHabit cX8_setHabit 4 (some .int) 2 := ⟨im_yX8_setHabit, se_RX8_yX8_setHabit, in_RX8, co_yX8_setHabit, ⟨rfl, by decide +kernel, by decide +kernel, by decide +kernel⟩, by decide⟩
set_option maxHeartbeats 1000000 in
set_option maxRecDepth 100000 in
theorem c_X8_setHabit (l : Launch) {D : va_G} {ct : Nat → ClassId} {ek ad : Nat → Nat} {N0 : Nat} {X : va_W} {F : State → Prop} (σ : Mem) (pb : Nat) (hpb : isP pb) (i : Nat) (hi : i < 6) (v : Int32) : MI l yX8_setHabit cX8_setHabit 4 (some .int) 0 D ct ek ad N0 X F [.ref (ad pb), .int (nI i), .int v] σ (fun r τ => r = σ (pb + 2) i ∧ τ = sg σ (pb + 2) i v) := by
  refine ms0 (own := RX8) (by decide) rfl (Nat.le_of_ble_eq_true rfl) (fun p e s m args below meth c S hr hlocks hnm G hP hS ls hl => ?_)
  have hx := S.1
  have hb := S.2.1
  replace hl : lv_has ls 4 [(0, .ref (ad pb)), (1, .int (nI i)), (2, .int v)] := hl
  refine lv_aload_n hx hb dX8_setHabit_0 rfl (lv_at hl 0 rfl) ?_
  refine gf S G hP pb 1 (isPl0 hpb) (oP hpb) rfl inX8 (by decide) fl_RX8_13 rfl rfl dX8_setHabit_1 ?_
  refine lv_iload_n hx hb dX8_setHabit_4 rfl (lv_at hl 1 rfl) ?_
  refine ald S G hP (pb + 2) i (isPl hpb (by decide)) ((aP2 hpb) _) rfl (by omega) (by decide) dX8_setHabit_5 ?_
  refine lv_istore_n (lv' := [(3, .int (σ (pb + 2) i)), (0, .ref (ad pb)), (1, .int (nI i)), (2, .int v)]) hx hb dX8_setHabit_6 rfl hl (by decide) rfl (fun ls hl => ?_)
  refine lv_aload_n hx hb dX8_setHabit_7 rfl (lv_at hl 1 rfl) ?_
  refine gf S G hP pb 1 (isPl0 hpb) (oP hpb) rfl inX8 (by decide) fl_RX8_13 rfl rfl dX8_setHabit_8 ?_
  refine lv_iload_n hx hb dX8_setHabit_11 rfl (lv_at hl 2 rfl) ?_
  refine lv_iload_n hx hb dX8_setHabit_12 rfl (lv_at hl 3 rfl) ?_
  refine ast S G hP hS (pb + 2) i (isPl hpb (by decide)) (aP2 hpb) rfl (by omega) (by decide) dX8_setHabit_13 (fun H locs hP hS => ?_)
  refine lv_iload_n hx hb dX8_setHabit_14 rfl (lv_at hl 0 rfl) ?_
  exact eI S hr hlocks hP hS dX8_setHabit_15 (by first | exact ⟨rfl, rfl⟩ | (refine ⟨?_, rfl⟩; simp []; done) | (simp []; done) | (simp only [↓reduceIte, if_true, if_false, and_self, true_and]; done) | grind [])

theorem ok_yX8_stepOf : COK RX8 yX8_stepOf cX8_stepOf 3 (some .int) 1 := ⟨im_yX8_stepOf, se_RX8_yX8_stepOf, in_RX8, co_yX8_stepOf, ⟨rfl, by decide +kernel, by decide +kernel, by decide +kernel⟩, by decide⟩
set_option maxHeartbeats 1000000 in
set_option maxRecDepth 100000 in
theorem c_X8_stepOf (l : Launch) {D : va_G} {ct : Nat → ClassId} {ek ad : Nat → Nat} {N0 : Nat} {X : va_W} {F : State → Prop} (σ : Mem) (pb : Nat) (hpb : isP pb) (i : Nat) (hi : i < 6) : MI l yX8_stepOf cX8_stepOf 3 (some .int) 0 D ct ek ad N0 X F [.ref (ad pb), .int (nI i)] σ (fun r τ => r = stepV (σ (pb + 2) i) (σ (pb + 3) i) ∧ τ = σ) := by
  refine ms0 (own := RX8) (by decide) rfl (Nat.le_of_ble_eq_true rfl) (fun p e s m args below meth c S hr hlocks hnm G hP hS ls hl => ?_)
  have hx := S.1
  have hb := S.2.1
  replace hl : lv_has ls 3 [(0, .ref (ad pb)), (1, .int (nI i))] := hl
  refine lv_bipush (v := 10) hx hb dX8_stepOf_0 (by decide) ?_
  refine lv_aload_n hx hb dX8_stepOf_2 rfl (lv_at hl 0 rfl) ?_
  refine gf S G hP pb 1 (isPl0 hpb) (oP hpb) rfl inX8 (by decide) fl_RX8_13 rfl rfl dX8_stepOf_3 ?_
  refine lv_iload_n hx hb dX8_stepOf_6 rfl (lv_at hl 1 rfl) ?_
  refine ald S G hP (pb + 2) i (isPl hpb (by decide)) ((aP2 hpb) _) rfl (by omega) (by decide) dX8_stepOf_7 ?_
  refine lv_isub hx hb dX8_stepOf_8 ?_
  refine lv_istore_n (lv' := [(2, .int (10 - (σ (pb + 2) i))), (0, .ref (ad pb)), (1, .int (nI i))]) hx hb dX8_stepOf_9 rfl hl (by decide) rfl (fun ls hl => ?_)
  refine lv_aload_n hx hb dX8_stepOf_10 rfl (lv_at hl 1 rfl) ?_
  refine gf S G hP pb 2 (isPl0 hpb) (oP hpb) rfl inX8 (by decide) fl_RX8_16 rfl rfl dX8_stepOf_11 ?_
  refine lv_iload_n hx hb dX8_stepOf_14 rfl (lv_at hl 2 rfl) ?_
  refine zld S G hP (pb + 3) i (isPl hpb (by decide)) ((aP3 hpb) _) rfl (by omega) (by decide) dX8_stepOf_15 ?_
  refine lv_if_eq (tgt := 25) hx hb dX8_stepOf_16 (by decide) (fun c_16 => ?_) (fun c_16 => ?_)
  · refine lv_iload_n hx hb dX8_stepOf_25 rfl (lv_at hl 0 rfl) ?_
    exact eI S hr hlocks hP hS dX8_stepOf_26 (by first | (refine ⟨?_, ?_⟩ <;> simp only [stepV, c_16, ↓reduceIte, if_true, if_false, eq_self]; done) | (refine ⟨?_, rfl⟩; simp only [stepV, c_16, ↓reduceIte, if_true, if_false, eq_self]; done) | exact ⟨rfl, rfl⟩ | (refine ⟨?_, rfl⟩; simp [stepV, c_16]; done) | (simp [stepV, c_16]; done) | grind [stepV])
  · refine lv_iload_n hx hb dX8_stepOf_19 rfl (lv_at hl 0 rfl) ?_
    refine lv_iconst (v := 2) hx hb dX8_stepOf_20 (by decide) ?_
    refine lv_idiv hx hb dX8_stepOf_21 (by decide) ?_
    refine lv_goto (tgt := 26) hx hb dX8_stepOf_22 (by decide) ?_
    exact eI S hr hlocks hP hS dX8_stepOf_26 (by first | (refine ⟨?_, ?_⟩ <;> simp only [stepV, c_16, ↓reduceIte, if_true, if_false, eq_self]; done) | (refine ⟨?_, rfl⟩; simp only [stepV, c_16, ↓reduceIte, if_true, if_false, eq_self]; done) | exact ⟨rfl, rfl⟩ | (refine ⟨?_, rfl⟩; simp [stepV, c_16]; done) | (simp [stepV, c_16]; done) | grind [stepV])

theorem ok_yX8_difference : COK RX8 yX8_difference cX8_difference 3 (some .int) 2 := ⟨im_yX8_difference, se_RX8_yX8_difference, in_RX8, co_yX8_difference, ⟨rfl, by decide +kernel, by decide +kernel, by decide +kernel⟩, by decide⟩
set_option maxHeartbeats 1000000 in
set_option maxRecDepth 100000 in
theorem c_X8_difference (l : Launch) {D : va_G} {ct : Nat → ClassId} {ek ad : Nat → Nat} {N0 : Nat} {X : va_W} {F : State → Prop} (σ : Mem) (pb : Nat) (hpb : isP pb) (i : Nat) (hi : i < 6) (j : Nat) (hj : j < 6) : MI l yX8_difference cX8_difference 3 (some .int) 1 D ct ek ad N0 X F [.ref (ad pb), .int (nI i), .int (nI j)] σ (fun r τ => r = abI (σ (pb + 1) i - σ (pb + 1) j) ∧ τ = σ) := by
  refine ms0 (own := RX8) (by decide) rfl (Nat.le_of_ble_eq_true rfl) (fun p e s m args below meth c S hr hlocks hnm G hP hS ls hl => ?_)
  have hx := S.1
  have hb := S.2.1
  replace hl : lv_has ls 3 [(0, .ref (ad pb)), (1, .int (nI i)), (2, .int (nI j))] := hl
  refine lv_aload_n hx hb dX8_difference_0 rfl (lv_at hl 0 rfl) ?_
  refine gf S G hP pb 0 (isPl0 hpb) (oP hpb) rfl inX8 (by decide) fl_RX8_9 rfl rfl dX8_difference_1 ?_
  refine lv_iload_n hx hb dX8_difference_4 rfl (lv_at hl 1 rfl) ?_
  refine ald S G hP (pb + 1) i (isPl hpb (by decide)) ((aP1 hpb) _) rfl (by omega) (by decide) dX8_difference_5 ?_
  refine lv_aload_n hx hb dX8_difference_6 rfl (lv_at hl 0 rfl) ?_
  refine gf S G hP pb 0 (isPl0 hpb) (oP hpb) rfl inX8 (by decide) fl_RX8_9 rfl rfl dX8_difference_7 ?_
  refine lv_iload_n hx hb dX8_difference_10 rfl (lv_at hl 2 rfl) ?_
  refine ald S G hP (pb + 1) j (isPl hpb (by decide)) ((aP1 hpb) _) rfl (by omega) (by decide) dX8_difference_11 ?_
  refine lv_isub hx hb dX8_difference_12 ?_
  refine rabs S rfl (by decide) hl.1 ml_RX8_50 (Nat.le_of_ble_eq_true rfl) ⟨Nat.zero_le _, Nat.zero_le _⟩ dX8_difference_13 ?_
  exact eI S hr hlocks hP hS dX8_difference_16 (by first | exact ⟨rfl, rfl⟩ | (refine ⟨?_, rfl⟩; simp []; done) | (simp []; done) | (simp only [↓reduceIte, if_true, if_false, and_self, true_and]; done) | grind [])

theorem ok_yX8_habitBehind : COKs RX8 yX8_habitBehind cX8_habitBehind 2 (some .int) 2 := ⟨sm_yX8_habitBehind, in_RX8, co_yX8_habitBehind, ⟨rfl, by decide +kernel, by decide +kernel, by decide +kernel⟩, by decide⟩
set_option maxHeartbeats 1000000 in
set_option maxRecDepth 100000 in
theorem c_X8_habitBehind (l : Launch) {D : va_G} {ct : Nat → ClassId} {ek ad : Nat → Nat} {N0 : Nat} {X : va_W} {F : State → Prop} (σ : Mem) (h : Int32) (d : Int32) : MI l yX8_habitBehind cX8_habitBehind 2 (some .int) 1 D ct ek ad N0 X F [.int h, .int d] σ (fun r τ => r = habV h d ∧ τ = σ) := by
  refine ms0 (own := RX8) (by decide) rfl (Nat.le_of_ble_eq_true rfl) (fun p e s m args below meth c S hr hlocks hnm G hP hS ls hl => ?_)
  have hx := S.1
  have hb := S.2.1
  replace hl : lv_has ls 2 [(0, .int h), (1, .int d)] := hl
  refine lv_iload_n hx hb dX8_habitBehind_0 rfl (lv_at hl 1 rfl) ?_
  refine lv_if_ne (tgt := 13) hx hb dX8_habitBehind_1 (by decide) (fun c_1 => ?_) (fun c_1 => ?_)
  · refine lv_iload_n hx hb dX8_habitBehind_13 rfl (lv_at hl 1 rfl) ?_
    refine lv_iconst (v := 3) hx hb dX8_habitBehind_14 (by decide) ?_
    refine lv_icmp_lt (tgt := 28) hx hb dX8_habitBehind_15 (by decide) (fun c_15 => ?_) (fun c_15 => ?_)
    · refine lv_iload_n hx hb dX8_habitBehind_28 rfl (lv_at hl 0 rfl) ?_
      exact eI S hr hlocks hP hS dX8_habitBehind_29 (by first | (refine ⟨?_, ?_⟩ <;> simp only [habV, c_1, c_15, ↓reduceIte, if_true, if_false, eq_self]; done) | (refine ⟨?_, rfl⟩; simp only [habV, c_1, c_15, ↓reduceIte, if_true, if_false, eq_self]; done) | exact ⟨rfl, rfl⟩ | (refine ⟨?_, rfl⟩; simp [habV, c_1, c_15]; done) | (simp [habV, c_1, c_15]; done) | grind [habV])
    · refine lv_iload_n hx hb dX8_habitBehind_18 rfl (lv_at hl 0 rfl) ?_
      refine lv_iconst (v := 1) hx hb dX8_habitBehind_19 (by decide) ?_
      refine lv_isub hx hb dX8_habitBehind_20 ?_
      refine lv_iconst (v := 0) hx hb dX8_habitBehind_21 (by decide) ?_
      refine rmax S rfl (by decide) hl.1 ml_RX8_65 (Nat.le_of_ble_eq_true rfl) ⟨Nat.zero_le _, Nat.zero_le _⟩ dX8_habitBehind_22 ?_
      refine lv_goto (tgt := 29) hx hb dX8_habitBehind_25 (by decide) ?_
      exact eI S hr hlocks hP hS dX8_habitBehind_29 (by first | (refine ⟨?_, ?_⟩ <;> simp only [habV, c_1, c_15, ↓reduceIte, if_true, if_false, eq_self]; done) | (refine ⟨?_, rfl⟩; simp only [habV, c_1, c_15, ↓reduceIte, if_true, if_false, eq_self]; done) | exact ⟨rfl, rfl⟩ | (refine ⟨?_, rfl⟩; simp [habV, c_1, c_15]; done) | (simp [habV, c_1, c_15]; done) | grind [habV])
  · refine lv_iload_n hx hb dX8_habitBehind_4 rfl (lv_at hl 0 rfl) ?_
    refine lv_iconst (v := 1) hx hb dX8_habitBehind_5 (by decide) ?_
    refine lv_iadd hx hb dX8_habitBehind_6 ?_
    refine lv_bipush (v := 9) hx hb dX8_habitBehind_7 (by decide) ?_
    refine rmin S rfl (by decide) hl.1 ml_RX8_62 (Nat.le_of_ble_eq_true rfl) ⟨Nat.zero_le _, Nat.zero_le _⟩ dX8_habitBehind_9 ?_
    exact eI S hr hlocks hP hS dX8_habitBehind_12 (by first | (refine ⟨?_, ?_⟩ <;> simp only [habV, c_1, ↓reduceIte, if_true, if_false, eq_self]; done) | (refine ⟨?_, rfl⟩; simp only [habV, c_1, ↓reduceIte, if_true, if_false, eq_self]; done) | exact ⟨rfl, rfl⟩ | (refine ⟨?_, rfl⟩; simp [habV, c_1]; done) | (simp [habV, c_1]; done) | grind [habV])

theorem ok_yX8_forceOn : COK RX8 yX8_forceOn cX8_forceOn 3 (some .int) 2 := ⟨im_yX8_forceOn, se_RX8_yX8_forceOn, in_RX8, co_yX8_forceOn, ⟨rfl, by decide +kernel, by decide +kernel, by decide +kernel⟩, by decide⟩
set_option maxHeartbeats 1000000 in
set_option maxRecDepth 100000 in
theorem c_X8_forceOn (l : Launch) {D : va_G} {ct : Nat → ClassId} {ek ad : Nat → Nat} {N0 : Nat} {X : va_W} {F : State → Prop} (σ : Mem) (pb : Nat) (hpb : isP pb) (i : Nat) (hi : i < 6) (x : Int32) : MI l yX8_forceOn cX8_forceOn 3 (some .int) 1 D ct ek ad N0 X F [.ref (ad pb), .int (nI i), .int x] σ (fun r τ => r = forceV x (σ (pb + 2) i) ∧ τ = σ) := by
  refine ms0 (own := RX8) (by decide) rfl (Nat.le_of_ble_eq_true rfl) (fun p e s m args below meth c S hr hlocks hnm G hP hS ls hl => ?_)
  have hx := S.1
  have hb := S.2.1
  replace hl : lv_has ls 3 [(0, .ref (ad pb)), (1, .int (nI i)), (2, .int x)] := hl
  refine lv_iload_n hx hb dX8_forceOn_0 rfl (lv_at hl 2 rfl) ?_
  refine lv_aload_n hx hb dX8_forceOn_1 rfl (lv_at hl 0 rfl) ?_
  refine gf S G hP pb 1 (isPl0 hpb) (oP hpb) rfl inX8 (by decide) fl_RX8_13 rfl rfl dX8_forceOn_2 ?_
  refine lv_iload_n hx hb dX8_forceOn_5 rfl (lv_at hl 1 rfl) ?_
  refine ald S G hP (pb + 2) i (isPl hpb (by decide)) ((aP2 hpb) _) rfl (by omega) (by decide) dX8_forceOn_6 ?_
  refine lv_iconst (v := 3) hx hb dX8_forceOn_7 (by decide) ?_
  refine lv_idiv hx hb dX8_forceOn_8 (by decide) ?_
  refine lv_isub hx hb dX8_forceOn_9 ?_
  refine lv_iconst (v := 0) hx hb dX8_forceOn_10 (by decide) ?_
  refine rmax S rfl (by decide) hl.1 ml_RX8_65 (Nat.le_of_ble_eq_true rfl) ⟨Nat.zero_le _, Nat.zero_le _⟩ dX8_forceOn_11 ?_
  exact eI S hr hlocks hP hS dX8_forceOn_14 (by first | exact ⟨rfl, rfl⟩ | (refine ⟨?_, rfl⟩; simp []; done) | (simp []; done) | (simp only [↓reduceIte, if_true, if_false, and_self, true_and]; done) | grind [])

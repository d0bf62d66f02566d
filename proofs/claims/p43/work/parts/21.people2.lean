/-! People: the walks, on (laid by wip/p43/spec_people2.py) -/
theorem ok_yJ6_compare_7cf53 : COKs RJ6 yJ6_compare_7cf53 cJ6_compare_7cf53 2 (some .int) 2 := ⟨sm_yJ6_compare_7cf53, in_RJ6, co_yJ6_compare_7cf53, ⟨rfl, by decide +kernel, by decide +kernel, by decide +kernel⟩, by decide⟩
set_option maxHeartbeats 1000000 in
set_option maxRecDepth 100000 in
theorem c_J6_compare_7cf53 (l : Launch) {D : va_G} {ct : Nat → ClassId} {ek ad : Nat → Nat} {N0 : Nat} {X : va_W} {F : State → Prop} (σ : Mem) (x : Int32) (y : Int32) : MI l yJ6_compare_7cf53 cJ6_compare_7cf53 2 (some .int) 0 D ct ek ad N0 X F [.int x, .int y] σ (fun r τ => r = sgnV x y ∧ τ = σ) := by
  refine ms0 (own := RJ6) (by decide) rfl (Nat.le_of_ble_eq_true rfl) (fun p e s m args below meth c S hr hlocks hnm G hP hS ls hl => ?_)
  have hx := S.1
  have hb := S.2.1
  replace hl : lv_has ls 2 [(0, .int x), (1, .int y)] := hl
  refine lv_iload_n hx hb dJ6_compare_7cf53_0 rfl (lv_at hl 0 rfl) ?_
  refine lv_iload_n hx hb dJ6_compare_7cf53_1 rfl (lv_at hl 1 rfl) ?_
  refine lv_icmp_ge (tgt := 9) hx hb dJ6_compare_7cf53_2 (by decide) (fun c_2 => ?_) (fun c_2 => ?_)
  · refine lv_iload_n hx hb dJ6_compare_7cf53_9 rfl (lv_at hl 0 rfl) ?_
    refine lv_iload_n hx hb dJ6_compare_7cf53_10 rfl (lv_at hl 1 rfl) ?_
    refine lv_icmp_ne (tgt := 18) hx hb dJ6_compare_7cf53_11 (by decide) (fun c_11 => ?_) (fun c_11 => ?_)
    · refine lv_iconst (v := 1) hx hb dJ6_compare_7cf53_18 (by decide) ?_
      exact eI S hr hlocks hP hS dJ6_compare_7cf53_19 (by first | (refine ⟨?_, ?_⟩ <;> simp only [sgnV, c_2, c_11, ↓reduceIte, if_true, if_false, eq_self]; done) | (refine ⟨?_, rfl⟩; simp only [sgnV, c_2, c_11, ↓reduceIte, if_true, if_false, eq_self]; done) | exact ⟨rfl, rfl⟩ | (refine ⟨?_, rfl⟩; simp [sgnV, c_2, c_11]; done) | (simp [sgnV, c_2, c_11]; done) | grind [sgnV])
    · refine lv_iconst (v := 0) hx hb dJ6_compare_7cf53_14 (by decide) ?_
      refine lv_goto (tgt := 19) hx hb dJ6_compare_7cf53_15 (by decide) ?_
      exact eI S hr hlocks hP hS dJ6_compare_7cf53_19 (by first | (refine ⟨?_, ?_⟩ <;> simp only [sgnV, c_2, c_11, ↓reduceIte, if_true, if_false, eq_self]; done) | (refine ⟨?_, rfl⟩; simp only [sgnV, c_2, c_11, ↓reduceIte, if_true, if_false, eq_self]; done) | exact ⟨rfl, rfl⟩ | (refine ⟨?_, rfl⟩; simp [sgnV, c_2, c_11]; done) | (simp [sgnV, c_2, c_11]; done) | grind [sgnV])
  · refine lv_iconst (v := (-1)) hx hb dJ6_compare_7cf53_5 (by decide) ?_
    refine lv_goto (tgt := 19) hx hb dJ6_compare_7cf53_6 (by decide) ?_
    exact eI S hr hlocks hP hS dJ6_compare_7cf53_19 (by first | (refine ⟨?_, ?_⟩ <;> simp only [sgnV, c_2, ↓reduceIte, if_true, if_false, eq_self]; done) | (refine ⟨?_, rfl⟩; simp only [sgnV, c_2, ↓reduceIte, if_true, if_false, eq_self]; done) | exact ⟨rfl, rfl⟩ | (refine ⟨?_, rfl⟩; simp [sgnV, c_2]; done) | (simp [sgnV, c_2]; done) | grind [sgnV])

theorem ok_yX8_sideOf : COK RX8 yX8_sideOf cX8_sideOf 2 (some .int) 1 := ⟨im_yX8_sideOf, se_RX8_yX8_sideOf, in_RX8, co_yX8_sideOf, ⟨rfl, by decide +kernel, by decide +kernel, by decide +kernel⟩, by decide⟩
set_option maxHeartbeats 1000000 in
set_option maxRecDepth 100000 in
theorem c_X8_sideOf (l : Launch) {D : va_G} {ct : Nat → ClassId} {ek ad : Nat → Nat} {N0 : Nat} {X : va_W} {F : State → Prop} (σ : Mem) (pb : Nat) (hpb : isP pb) (i : Nat) (hi : i < 6) : MI l yX8_sideOf cX8_sideOf 2 (some .int) 1 D ct ek ad N0 X F [.ref (ad pb), .int (nI i)] σ (fun r τ => r = sgnV (σ (pb + 1) i) 0 ∧ τ = σ) := by
  refine ms0 (own := RX8) (by decide) rfl (Nat.le_of_ble_eq_true rfl) (fun p e s m args below meth c S hr hlocks hnm G hP hS ls hl => ?_)
  have hx := S.1
  have hb := S.2.1
  replace hl : lv_has ls 2 [(0, .ref (ad pb)), (1, .int (nI i))] := hl
  refine lv_aload_n hx hb dX8_sideOf_0 rfl (lv_at hl 0 rfl) ?_
  refine gf S G hP pb 0 (isPl0 hpb) (oP hpb) rfl inX8 (by decide) fl_RX8_9 rfl rfl dX8_sideOf_1 ?_
  refine lv_iload_n hx hb dX8_sideOf_4 rfl (lv_at hl 1 rfl) ?_
  refine ald S G hP (pb + 1) i (isPl hpb (by decide)) ((aP1 hpb) _) rfl (by omega) (by decide) dX8_sideOf_5 ?_
  refine lv_iconst (v := 0) hx hb dX8_sideOf_6 (by decide) ?_
  refine cSie (As := [.int (σ (pb + 1) i), .int 0]) S G (c_J6_compare_7cf53 l (D := D) (ct := ct) (ek := ek) (ad := ad) (N0 := N0) (X := X) (F := F) σ (σ (pb + 1) i) 0) ok_yJ6_compare_7cf53 ml_RX8_44 hP hS hl.1 rfl (by decide) rfl rfl (Nat.le_of_ble_eq_true rfl) ⟨Nat.zero_le _, Nat.zero_le _⟩ dX8_sideOf_7 (fun H locs hP hS => ?_)
  exact eI S hr hlocks hP hS dX8_sideOf_10 (by first | exact ⟨rfl, rfl⟩ | (refine ⟨?_, rfl⟩; simp []; done) | (simp []; done) | (simp only [↓reduceIte, if_true, if_false, and_self, true_and]; done) | grind [])

theorem ok_yX8_friendCount : COK RX8 yX8_friendCount cX8_friendCount 4 (some .int) 1 := ⟨im_yX8_friendCount, se_RX8_yX8_friendCount, in_RX8, co_yX8_friendCount, ⟨rfl, by decide +kernel, by decide +kernel, by decide +kernel⟩, by decide⟩
set_option maxHeartbeats 1000000 in
set_option maxRecDepth 100000 in
theorem c_X8_friendCount (l : Launch) {D : va_G} {ct : Nat → ClassId} {ek ad : Nat → Nat} {N0 : Nat} {X : va_W} {F : State → Prop} (σ : Mem) (pb : Nat) (hpb : isP pb) (i : Nat) (hi : i < 6) (n : Nat) (hn : σ pb 7 = nI n) (hn6 : n ≤ 6) : MI l yX8_friendCount cX8_friendCount 4 (some .int) 0 D ct ek ad N0 X F [.ref (ad pb), .int (nI i)] σ (fun r τ => r = cntR (σ (pb + 7 + i)) n ∧ τ = σ) := by
  refine ms0 (own := RX8) (by decide) rfl (Nat.le_of_ble_eq_true rfl) (fun p e s m args below meth c S hr hlocks hnm G hP hS ls hl => ?_)
  have hx := S.1
  have hb := S.2.1
  replace hl : lv_has ls 4 [(0, .ref (ad pb)), (1, .int (nI i))] := hl
  refine lv_iconst (v := 0) hx hb dX8_friendCount_0 (by decide) ?_
  refine lv_istore_n (lv' := [(2, .int 0), (0, .ref (ad pb)), (1, .int (nI i))]) hx hb dX8_friendCount_1 rfl hl (by decide) rfl (fun ls hl => ?_)
  refine lv_iconst (v := 0) hx hb dX8_friendCount_2 (by decide) ?_
  refine lv_istore_n (lv' := [(3, .int 0), (2, .int 0), (0, .ref (ad pb)), (1, .int (nI i))]) hx hb dX8_friendCount_3 rfl hl (by decide) rfl (fun ls hl => ?_)
  have key_4 : ∀ (d k : Nat), k + d = n → ∀ (H : Heap) (locs : List Loc) (ls : Array Slot), wP D ct ek ad X σ H → va_S (fr N0) s.heap H locs → lv_has ls 4 [(3, .int (nI k)), (2, .int (cntR (σ (pb + 7 + i)) k)), (0, .ref (ad pb)), (1, .int (nI i))] → W p l e (rmd 0 0 0) s m args below meth c H locs 0 0 (MQ below (wQi D ct ek ad N0 X (fun r τ => r = cntR (σ (pb + 7 + i)) n ∧ τ = σ)) args s 0 0 (fr N0)) (F0 m 4 ls []) := by
    intro d
    induction d with
    | zero =>
      intro k9 hk
      obtain rfl : n = k9 := by omega
      intro  H locs ls hP hS hl
      refine lv_iload_n hx hb dX8_friendCount_4 rfl (lv_at hl 0 rfl) ?_
      refine lv_aload_n hx hb dX8_friendCount_5 rfl (lv_at hl 2 rfl) ?_
      refine gf S G hP pb 7 (isPl0 hpb) (oP hpb) rfl inX8 (by decide) fl_RX8_40 rfl rfl dX8_friendCount_6 ?_
      refine lv_icmp_ge (tgt := 32) hx hb dX8_friendCount_9 (by decide) (fun c_9 => ?_) (fun c_9 => absurd (by rw [hn]; exact nI_le (by omega) (by omega)) c_9)
      refine lv_iload_n hx hb dX8_friendCount_32 rfl (lv_at hl 1 rfl) ?_
      exact eI S hr hlocks hP hS dX8_friendCount_33 (by first | (refine ⟨?_, ?_⟩ <;> simp only [cntR, c_9, ↓reduceIte, if_true, if_false, eq_self]; done) | (refine ⟨?_, rfl⟩; simp only [cntR, c_9, ↓reduceIte, if_true, if_false, eq_self]; done) | exact ⟨rfl, rfl⟩ | (refine ⟨?_, rfl⟩; simp [cntR, c_9]; done) | (simp [cntR, c_9]; done) | grind [cntR])
    | succ d ih =>
      intro k hk  H locs ls hP hS hl
      have hkn : k < n := by omega
      refine lv_iload_n hx hb dX8_friendCount_4 rfl (lv_at hl 0 rfl) ?_
      refine lv_aload_n hx hb dX8_friendCount_5 rfl (lv_at hl 2 rfl) ?_
      refine gf S G hP pb 7 (isPl0 hpb) (oP hpb) rfl inX8 (by decide) fl_RX8_40 rfl rfl dX8_friendCount_6 ?_
      refine lv_icmp_ge (tgt := 32) hx hb dX8_friendCount_9 (by decide) (fun c_9 => absurd c_9 (by rw [hn]; exact nI_ge (by omega) (by omega))) (fun c_9 => ?_)
      refine lv_aload_n hx hb dX8_friendCount_12 rfl (lv_at hl 2 rfl) ?_
      refine gf S G hP pb 5 (isPl0 hpb) (oP hpb) rfl inX8 (by decide) fl_RX8_28 rfl rfl dX8_friendCount_13 ?_
      refine lv_iload_n hx hb dX8_friendCount_16 rfl (lv_at hl 3 rfl) ?_
      refine gld S G hP (pb + 6) i (isPl hpb (by decide)) ((gP6 hpb) _) rfl (by omega) (by decide) (if_pos (by omega)) dX8_friendCount_17 ?_
      refine lv_iload_n hx hb dX8_friendCount_18 rfl (lv_at hl 0 rfl) ?_
      refine ald S G hP (pb + 7 + i) k (isPlw hpb (by omega)) ((aPw hpb (by omega)) _) rfl (by omega) (by decide) dX8_friendCount_19 ?_
      refine lv_if_eq (tgt := 26) hx hb dX8_friendCount_20 (by decide) (fun c_20 => ?_) (fun c_20 => ?_)
      · refine lv_iinc (v := nI (k + 1)) (lv' := [(3, .int (nI (k + 1))), (2, .int (cntR (σ (pb + 7 + i)) k)), (0, .ref (ad pb)), (1, .int (nI i))]) hx hb dX8_friendCount_26 hl (k := 0) rfl (nI_inc _) (by decide) rfl (fun ls hl => ?_)
        refine lv_goto (tgt := 4) hx hb dX8_friendCount_29 (by decide) ?_
        exact ih (k + 1) (by omega)  _ _ _ hP hS (by first | (refine lv_v (lv_sub (l' := [(3, .int (nI (k + 1))), (2, .int (cntR (σ (pb + 7 + i)) k)), (0, .ref (ad pb)), (1, .int (nI i))]) hl [0, 1, 2, 3] rfl) ?_; simp [fo, cntR, c_9, c_20]; done) | exact lv_sub hl [0, 1, 2, 3] rfl)
      · refine lv_iinc (v := (cntR (σ (pb + 7 + i)) k) + 1) (lv' := [(2, .int ((cntR (σ (pb + 7 + i)) k) + 1)), (3, .int (nI k)), (0, .ref (ad pb)), (1, .int (nI i))]) hx hb dX8_friendCount_23 hl (k := 1) rfl rfl (by decide) rfl (fun ls hl => ?_)
        refine lv_iinc (v := nI (k + 1)) (lv' := [(3, .int (nI (k + 1))), (2, .int ((cntR (σ (pb + 7 + i)) k) + 1)), (0, .ref (ad pb)), (1, .int (nI i))]) hx hb dX8_friendCount_26 hl (k := 1) rfl (nI_inc _) (by decide) rfl (fun ls hl => ?_)
        refine lv_goto (tgt := 4) hx hb dX8_friendCount_29 (by decide) ?_
        exact ih (k + 1) (by omega)  _ _ _ hP hS (by first | (refine lv_v (lv_sub (l' := [(3, .int (nI (k + 1))), (2, .int ((cntR (σ (pb + 7 + i)) k) + 1)), (0, .ref (ad pb)), (1, .int (nI i))]) hl [0, 1, 2, 3] rfl) ?_; simp [fo, cntR, c_9, c_20]; done) | exact lv_sub hl [0, 1, 2, 3] rfl)
  exact key_4 n 0 (by omega)  _ _ _ hP hS (lv_sub hl [0, 1, 2, 3] rfl)

theorem ok_yX8_weightsTogether : COK RX8 yX8_weightsTogether cX8_weightsTogether 4 (some .int) 1 := ⟨im_yX8_weightsTogether, se_RX8_yX8_weightsTogether, in_RX8, co_yX8_weightsTogether, ⟨rfl, by decide +kernel, by decide +kernel, by decide +kernel⟩, by decide⟩
set_option maxHeartbeats 1000000 in
set_option maxRecDepth 100000 in
theorem c_X8_weightsTogether (l : Launch) {D : va_G} {ct : Nat → ClassId} {ek ad : Nat → Nat} {N0 : Nat} {X : va_W} {F : State → Prop} (σ : Mem) (pb : Nat) (hpb : isP pb) (i : Nat) (hi : i < 6) (n : Nat) (hn : σ pb 7 = nI n) (hn6 : n ≤ 6) : MI l yX8_weightsTogether cX8_weightsTogether 4 (some .int) 0 D ct ek ad N0 X F [.ref (ad pb), .int (nI i)] σ (fun r τ => r = sumR (σ (pb + 7 + i)) 0 n ∧ τ = σ) := by
  refine ms0 (own := RX8) (by decide) rfl (Nat.le_of_ble_eq_true rfl) (fun p e s m args below meth c S hr hlocks hnm G hP hS ls hl => ?_)
  have hx := S.1
  have hb := S.2.1
  replace hl : lv_has ls 4 [(0, .ref (ad pb)), (1, .int (nI i))] := hl
  refine lv_iconst (v := 0) hx hb dX8_weightsTogether_0 (by decide) ?_
  refine lv_istore_n (lv' := [(2, .int 0), (0, .ref (ad pb)), (1, .int (nI i))]) hx hb dX8_weightsTogether_1 rfl hl (by decide) rfl (fun ls hl => ?_)
  refine lv_iconst (v := 0) hx hb dX8_weightsTogether_2 (by decide) ?_
  refine lv_istore_n (lv' := [(3, .int 0), (2, .int 0), (0, .ref (ad pb)), (1, .int (nI i))]) hx hb dX8_weightsTogether_3 rfl hl (by decide) rfl (fun ls hl => ?_)
  have key_4 : ∀ (d k : Nat), k + d = n → ∀ (H : Heap) (locs : List Loc) (ls : Array Slot), wP D ct ek ad X σ H → va_S (fr N0) s.heap H locs → lv_has ls 4 [(3, .int (nI k)), (2, .int (sumR (σ (pb + 7 + i)) 0 k)), (0, .ref (ad pb)), (1, .int (nI i))] → W p l e (rmd 0 0 0) s m args below meth c H locs 0 0 (MQ below (wQi D ct ek ad N0 X (fun r τ => r = sumR (σ (pb + 7 + i)) 0 n ∧ τ = σ)) args s 0 0 (fr N0)) (F0 m 4 ls []) := by
    intro d
    induction d with
    | zero =>
      intro k9 hk
      obtain rfl : n = k9 := by omega
      intro  H locs ls hP hS hl
      refine lv_iload_n hx hb dX8_weightsTogether_4 rfl (lv_at hl 0 rfl) ?_
      refine lv_aload_n hx hb dX8_weightsTogether_5 rfl (lv_at hl 2 rfl) ?_
      refine gf S G hP pb 7 (isPl0 hpb) (oP hpb) rfl inX8 (by decide) fl_RX8_40 rfl rfl dX8_weightsTogether_6 ?_
      refine lv_icmp_ge (tgt := 29) hx hb dX8_weightsTogether_9 (by decide) (fun c_9 => ?_) (fun c_9 => absurd (by rw [hn]; exact nI_le (by omega) (by omega)) c_9)
      refine lv_iload_n hx hb dX8_weightsTogether_29 rfl (lv_at hl 1 rfl) ?_
      exact eI S hr hlocks hP hS dX8_weightsTogether_30 (by first | (refine ⟨?_, ?_⟩ <;> simp only [sumR, c_9, ↓reduceIte, if_true, if_false, eq_self]; done) | (refine ⟨?_, rfl⟩; simp only [sumR, c_9, ↓reduceIte, if_true, if_false, eq_self]; done) | exact ⟨rfl, rfl⟩ | (refine ⟨?_, rfl⟩; simp [sumR, c_9]; done) | (simp [sumR, c_9]; done) | grind [sumR])
    | succ d ih =>
      intro k hk  H locs ls hP hS hl
      have hkn : k < n := by omega
      refine lv_iload_n hx hb dX8_weightsTogether_4 rfl (lv_at hl 0 rfl) ?_
      refine lv_aload_n hx hb dX8_weightsTogether_5 rfl (lv_at hl 2 rfl) ?_
      refine gf S G hP pb 7 (isPl0 hpb) (oP hpb) rfl inX8 (by decide) fl_RX8_40 rfl rfl dX8_weightsTogether_6 ?_
      refine lv_icmp_ge (tgt := 29) hx hb dX8_weightsTogether_9 (by decide) (fun c_9 => absurd c_9 (by rw [hn]; exact nI_ge (by omega) (by omega))) (fun c_9 => ?_)
      refine lv_iload_n hx hb dX8_weightsTogether_12 rfl (lv_at hl 1 rfl) ?_
      refine lv_aload_n hx hb dX8_weightsTogether_13 rfl (lv_at hl 2 rfl) ?_
      refine gf S G hP pb 5 (isPl0 hpb) (oP hpb) rfl inX8 (by decide) fl_RX8_28 rfl rfl dX8_weightsTogether_14 ?_
      refine lv_iload_n hx hb dX8_weightsTogether_17 rfl (lv_at hl 3 rfl) ?_
      refine gld S G hP (pb + 6) i (isPl hpb (by decide)) ((gP6 hpb) _) rfl (by omega) (by decide) (if_pos (by omega)) dX8_weightsTogether_18 ?_
      refine lv_iload_n hx hb dX8_weightsTogether_19 rfl (lv_at hl 0 rfl) ?_
      refine ald S G hP (pb + 7 + i) k (isPlw hpb (by omega)) ((aPw hpb (by omega)) _) rfl (by omega) (by decide) dX8_weightsTogether_20 ?_
      refine lv_iadd hx hb dX8_weightsTogether_21 ?_
      refine lv_istore_n (lv' := [(2, .int ((sumR (σ (pb + 7 + i)) 0 k) + (σ (pb + 7 + i) k))), (3, .int (nI k)), (0, .ref (ad pb)), (1, .int (nI i))]) hx hb dX8_weightsTogether_22 rfl hl (by decide) rfl (fun ls hl => ?_)
      refine lv_iinc (v := nI (k + 1)) (lv' := [(3, .int (nI (k + 1))), (2, .int ((sumR (σ (pb + 7 + i)) 0 k) + (σ (pb + 7 + i) k))), (0, .ref (ad pb)), (1, .int (nI i))]) hx hb dX8_weightsTogether_23 hl (k := 1) rfl (nI_inc _) (by decide) rfl (fun ls hl => ?_)
      refine lv_goto (tgt := 4) hx hb dX8_weightsTogether_26 (by decide) ?_
      exact ih (k + 1) (by omega)  _ _ _ hP hS (by first | exact lv_sub hl [0, 1, 2, 3] rfl | (refine lv_v (lv_sub (l' := [(3, .int (nI (k + 1))), (2, .int ((sumR (σ (pb + 7 + i)) 0 k) + (σ (pb + 7 + i) k))), (0, .ref (ad pb)), (1, .int (nI i))]) hl [0, 1, 2, 3] rfl) ?_; simp [fo, sumR, c_9]; done))
  exact key_4 n 0 (by omega)  _ _ _ hP hS (lv_sub hl [0, 1, 2, 3] rfl)

theorem ok_yX8_meanByFriends : COK RX8 yX8_meanByFriends cX8_meanByFriends 6 (some .int) 1 := ⟨im_yX8_meanByFriends, se_RX8_yX8_meanByFriends, in_RX8, co_yX8_meanByFriends, ⟨rfl, by decide +kernel, by decide +kernel, by decide +kernel⟩, by decide⟩
set_option maxHeartbeats 1000000 in
set_option maxRecDepth 100000 in
theorem c_X8_meanByFriends (l : Launch) {D : va_G} {ct : Nat → ClassId} {ek ad : Nat → Nat} {N0 : Nat} {X : va_W} {F : State → Prop} (σ : Mem) (pb : Nat) (hpb : isP pb) (i : Nat) (hi : i < 6) (n : Nat) (hn : σ pb 7 = nI n) (hn6 : n ≤ 6) : MI l yX8_meanByFriends cX8_meanByFriends 6 (some .int) 0 D ct ek ad N0 X F [.ref (ad pb), .int (nI i)] σ (fun r τ => r = meanV σ pb n i ∧ τ = σ) := by
  refine ms0 (own := RX8) (by decide) rfl (Nat.le_of_ble_eq_true rfl) (fun p e s m args below meth c S hr hlocks hnm G hP hS ls hl => ?_)
  have hx := S.1
  have hb := S.2.1
  replace hl : lv_has ls 6 [(0, .ref (ad pb)), (1, .int (nI i))] := hl
  refine lv_aload_n hx hb dX8_meanByFriends_0 rfl (lv_at hl 0 rfl) ?_
  refine gf S G hP pb 1 (isPl0 hpb) (oP hpb) rfl inX8 (by decide) fl_RX8_13 rfl rfl dX8_meanByFriends_1 ?_
  refine lv_iload_n hx hb dX8_meanByFriends_4 rfl (lv_at hl 1 rfl) ?_
  refine ald S G hP (pb + 2) i (isPl hpb (by decide)) ((aP2 hpb) _) rfl (by omega) (by decide) dX8_meanByFriends_5 ?_
  refine lv_iconst (v := 1) hx hb dX8_meanByFriends_6 (by decide) ?_
  refine lv_iadd hx hb dX8_meanByFriends_7 ?_
  refine lv_istore_n (lv' := [(2, .int ((σ (pb + 2) i) + 1)), (0, .ref (ad pb)), (1, .int (nI i))]) hx hb dX8_meanByFriends_8 rfl hl (by decide) rfl (fun ls hl => ?_)
  refine lv_aload_n hx hb dX8_meanByFriends_9 rfl (lv_at hl 1 rfl) ?_
  refine gf S G hP pb 0 (isPl0 hpb) (oP hpb) rfl inX8 (by decide) fl_RX8_9 rfl rfl dX8_meanByFriends_10 ?_
  refine lv_iload_n hx hb dX8_meanByFriends_13 rfl (lv_at hl 2 rfl) ?_
  refine ald S G hP (pb + 1) i (isPl hpb (by decide)) ((aP1 hpb) _) rfl (by omega) (by decide) dX8_meanByFriends_14 ?_
  refine lv_iload_n hx hb dX8_meanByFriends_15 rfl (lv_at hl 0 rfl) ?_
  refine lv_imul hx hb dX8_meanByFriends_16 ?_
  refine lv_istore_n (lv' := [(3, .int ((σ (pb + 1) i) * ((σ (pb + 2) i) + 1))), (2, .int ((σ (pb + 2) i) + 1)), (0, .ref (ad pb)), (1, .int (nI i))]) hx hb dX8_meanByFriends_17 rfl hl (by decide) rfl (fun ls hl => ?_)
  refine lv_iconst (v := 0) hx hb dX8_meanByFriends_18 (by decide) ?_
  refine lv_istore (lv' := [(4, .int 0), (3, .int ((σ (pb + 1) i) * ((σ (pb + 2) i) + 1))), (2, .int ((σ (pb + 2) i) + 1)), (0, .ref (ad pb)), (1, .int (nI i))]) hx hb dX8_meanByFriends_19 hl (by decide) rfl (fun ls hl => ?_)
  have key_21 : ∀ (d k : Nat), k + d = n → ∀ (H : Heap) (locs : List Loc) (ls : Array Slot), wP D ct ek ad X σ H → va_S (fr N0) s.heap H locs → lv_has ls 6 [(4, .int (nI k)), (3, .int (wsmV σ pb i k)), (2, .int (sumR (σ (pb + 7 + i)) (σ (pb + 2) i + 1) k)), (0, .ref (ad pb)), (1, .int (nI i))] → W p l e (rmd 0 0 0) s m args below meth c H locs 0 0 (MQ below (wQi D ct ek ad N0 X (fun r τ => r = meanV σ pb n i ∧ τ = σ)) args s 0 0 (fr N0)) (F0 m 21 ls []) := by
    intro d
    induction d with
    | zero =>
      intro k9 hk
      obtain rfl : n = k9 := by omega
      intro  H locs ls hP hS hl
      refine lv_iload hx hb dX8_meanByFriends_21 (lv_at hl 0 rfl) ?_
      refine lv_aload_n hx hb dX8_meanByFriends_23 rfl (lv_at hl 3 rfl) ?_
      refine gf S G hP pb 7 (isPl0 hpb) (oP hpb) rfl inX8 (by decide) fl_RX8_40 rfl rfl dX8_meanByFriends_24 ?_
      refine lv_icmp_ge (tgt := 65) hx hb dX8_meanByFriends_27 (by decide) (fun c_27 => ?_) (fun c_27 => absurd (by rw [hn]; exact nI_le (by omega) (by omega)) c_27)
      refine lv_iload_n hx hb dX8_meanByFriends_65 rfl (lv_at hl 2 rfl) ?_
      refine lv_iconst (v := 1) hx hb dX8_meanByFriends_66 (by decide) ?_
      refine lv_icmp_ge (tgt := 74) hx hb dX8_meanByFriends_67 (by decide) (fun c_67 => ?_) (fun c_67 => ?_)
      · refine lv_iload_n hx hb dX8_meanByFriends_74 rfl (lv_at hl 1 rfl) ?_
        refine lv_iload_n hx hb dX8_meanByFriends_75 rfl (lv_at hl 2 rfl) ?_
        refine lv_idiv hx hb dX8_meanByFriends_76 (by intro h9; rw [h9] at c_67; exact absurd c_67 (by decide)) ?_
        exact eI S hr hlocks hP hS dX8_meanByFriends_77 (by first | (refine ⟨?_, ?_⟩ <;> simp only [meanV, wsmV, c_27, c_67, ↓reduceIte, if_true, if_false, eq_self]; done) | (refine ⟨?_, rfl⟩; simp only [meanV, wsmV, c_27, c_67, ↓reduceIte, if_true, if_false, eq_self]; done) | exact ⟨rfl, rfl⟩ | (refine ⟨?_, rfl⟩; simp [meanV, wsmV, c_27, c_67]; done) | (simp [meanV, wsmV, c_27, c_67]; done) | grind [meanV, wsmV])
      · refine lv_iconst (v := 0) hx hb dX8_meanByFriends_70 (by decide) ?_
        refine lv_goto (tgt := 77) hx hb dX8_meanByFriends_71 (by decide) ?_
        exact eI S hr hlocks hP hS dX8_meanByFriends_77 (by first | (refine ⟨?_, ?_⟩ <;> simp only [meanV, wsmV, c_27, c_67, ↓reduceIte, if_true, if_false, eq_self]; done) | (refine ⟨?_, rfl⟩; simp only [meanV, wsmV, c_27, c_67, ↓reduceIte, if_true, if_false, eq_self]; done) | exact ⟨rfl, rfl⟩ | (refine ⟨?_, rfl⟩; simp [meanV, wsmV, c_27, c_67]; done) | (simp [meanV, wsmV, c_27, c_67]; done) | grind [meanV, wsmV])
    | succ d ih =>
      intro k hk  H locs ls hP hS hl
      have hkn : k < n := by omega
      refine lv_iload hx hb dX8_meanByFriends_21 (lv_at hl 0 rfl) ?_
      refine lv_aload_n hx hb dX8_meanByFriends_23 rfl (lv_at hl 3 rfl) ?_
      refine gf S G hP pb 7 (isPl0 hpb) (oP hpb) rfl inX8 (by decide) fl_RX8_40 rfl rfl dX8_meanByFriends_24 ?_
      refine lv_icmp_ge (tgt := 65) hx hb dX8_meanByFriends_27 (by decide) (fun c_27 => absurd c_27 (by rw [hn]; exact nI_ge (by omega) (by omega))) (fun c_27 => ?_)
      refine lv_aload_n hx hb dX8_meanByFriends_30 rfl (lv_at hl 3 rfl) ?_
      refine gf S G hP pb 5 (isPl0 hpb) (oP hpb) rfl inX8 (by decide) fl_RX8_28 rfl rfl dX8_meanByFriends_31 ?_
      refine lv_iload_n hx hb dX8_meanByFriends_34 rfl (lv_at hl 4 rfl) ?_
      refine gld S G hP (pb + 6) i (isPl hpb (by decide)) ((gP6 hpb) _) rfl (by omega) (by decide) (if_pos (by omega)) dX8_meanByFriends_35 ?_
      refine lv_iload hx hb dX8_meanByFriends_36 (lv_at hl 0 rfl) ?_
      refine ald S G hP (pb + 7 + i) k (isPlw hpb (by omega)) ((aPw hpb (by omega)) _) rfl (by omega) (by decide) dX8_meanByFriends_38 ?_
      refine lv_istore (lv' := [(5, .int (σ (pb + 7 + i) k)), (4, .int (nI k)), (3, .int (wsmV σ pb i k)), (2, .int (sumR (σ (pb + 7 + i)) (σ (pb + 2) i + 1) k)), (0, .ref (ad pb)), (1, .int (nI i))]) hx hb dX8_meanByFriends_39 hl (by decide) rfl (fun ls hl => ?_)
      refine lv_iload_n hx hb dX8_meanByFriends_41 rfl (lv_at hl 2 rfl) ?_
      refine lv_aload_n hx hb dX8_meanByFriends_42 rfl (lv_at hl 4 rfl) ?_
      refine gf S G hP pb 0 (isPl0 hpb) (oP hpb) rfl inX8 (by decide) fl_RX8_9 rfl rfl dX8_meanByFriends_43 ?_
      refine lv_iload hx hb dX8_meanByFriends_46 (lv_at hl 1 rfl) ?_
      refine ald S G hP (pb + 1) k (isPl hpb (by decide)) ((aP1 hpb) _) rfl (by omega) (by decide) dX8_meanByFriends_48 ?_
      refine lv_iload hx hb dX8_meanByFriends_49 (lv_at hl 0 rfl) ?_
      refine lv_imul hx hb dX8_meanByFriends_51 ?_
      refine lv_iadd hx hb dX8_meanByFriends_52 ?_
      refine lv_istore_n (lv' := [(3, .int ((wsmV σ pb i k) + ((σ (pb + 1) k) * (σ (pb + 7 + i) k)))), (5, .int (σ (pb + 7 + i) k)), (4, .int (nI k)), (2, .int (sumR (σ (pb + 7 + i)) (σ (pb + 2) i + 1) k)), (0, .ref (ad pb)), (1, .int (nI i))]) hx hb dX8_meanByFriends_53 rfl hl (by decide) rfl (fun ls hl => ?_)
      refine lv_iload_n hx hb dX8_meanByFriends_54 rfl (lv_at hl 3 rfl) ?_
      refine lv_iload hx hb dX8_meanByFriends_55 (lv_at hl 1 rfl) ?_
      refine lv_iadd hx hb dX8_meanByFriends_57 ?_
      refine lv_istore_n (lv' := [(2, .int ((sumR (σ (pb + 7 + i)) (σ (pb + 2) i + 1) k) + (σ (pb + 7 + i) k))), (3, .int ((wsmV σ pb i k) + ((σ (pb + 1) k) * (σ (pb + 7 + i) k)))), (5, .int (σ (pb + 7 + i) k)), (4, .int (nI k)), (0, .ref (ad pb)), (1, .int (nI i))]) hx hb dX8_meanByFriends_58 rfl hl (by decide) rfl (fun ls hl => ?_)
      refine lv_iinc (v := nI (k + 1)) (lv' := [(4, .int (nI (k + 1))), (2, .int ((sumR (σ (pb + 7 + i)) (σ (pb + 2) i + 1) k) + (σ (pb + 7 + i) k))), (3, .int ((wsmV σ pb i k) + ((σ (pb + 1) k) * (σ (pb + 7 + i) k)))), (5, .int (σ (pb + 7 + i) k)), (0, .ref (ad pb)), (1, .int (nI i))]) hx hb dX8_meanByFriends_59 hl (k := 3) rfl (nI_inc _) (by decide) rfl (fun ls hl => ?_)
      refine lv_goto (tgt := 21) hx hb dX8_meanByFriends_62 (by decide) ?_
      exact ih (k + 1) (by omega)  _ _ _ hP hS (by first | exact lv_sub hl [0, 2, 1, 4, 5] rfl | (refine lv_v (lv_sub (l' := [(4, .int (nI (k + 1))), (3, .int ((wsmV σ pb i k) + ((σ (pb + 1) k) * (σ (pb + 7 + i) k)))), (2, .int ((sumR (σ (pb + 7 + i)) (σ (pb + 2) i + 1) k) + (σ (pb + 7 + i) k))), (0, .ref (ad pb)), (1, .int (nI i))]) hl [0, 2, 1, 4, 5] rfl) ?_; simp [fo, meanV, wsmV, c_27]; done))
  exact key_21 n 0 (by omega)  _ _ _ hP hS (lv_sub hl [0, 1, 2, 3, 4] rfl)

theorem ok_yX8_moveOf : COK RX8 yX8_moveOf cX8_moveOf 4 (some .int) 1 := ⟨im_yX8_moveOf, se_RX8_yX8_moveOf, in_RX8, co_yX8_moveOf, ⟨rfl, by decide +kernel, by decide +kernel, by decide +kernel⟩, by decide⟩
set_option maxHeartbeats 1000000 in
set_option maxRecDepth 100000 in
theorem c_X8_moveOf (l : Launch) {D : va_G} {ct : Nat → ClassId} {ek ad : Nat → Nat} {N0 : Nat} {X : va_W} {F : State → Prop} (σ : Mem) (pb : Nat) (hpb : isP pb) (i : Nat) (hi : i < 6) (n : Nat) (hn : σ pb 7 = nI n) (hn6 : n ≤ 6) : MI l yX8_moveOf cX8_moveOf 4 (some .int) 1 D ct ek ad N0 X F [.ref (ad pb), .int (nI i)] σ (fun r τ => r = moveV σ pb n i ∧ τ = σ) := by
  refine ms0 (own := RX8) (by decide) rfl (Nat.le_of_ble_eq_true rfl) (fun p e s m args below meth c S hr hlocks hnm G hP hS ls hl => ?_)
  have hx := S.1
  have hb := S.2.1
  replace hl : lv_has ls 4 [(0, .ref (ad pb)), (1, .int (nI i))] := hl
  refine lv_aload_n hx hb dX8_moveOf_0 rfl (lv_at hl 0 rfl) ?_
  refine lv_iload_n hx hb dX8_moveOf_1 rfl (lv_at hl 1 rfl) ?_
  refine cVie (As := [.int (nI i)]) S G pb (c_X8_stepOf l (D := D) (ct := ct) (ek := ek) (ad := ad) (N0 := N0) (X := X) (F := F) σ pb hpb i (by omega)) ok_yX8_stepOf ml_RX8_56 (isPl0 hpb) (oP hpb) rfl hP hS hl.1 rfl (by decide) rfl rfl (Nat.le_of_ble_eq_true rfl) ⟨Nat.zero_le _, Nat.zero_le _⟩ dX8_moveOf_2 (fun H locs hP hS => ?_)
  refine lv_istore_n (lv' := [(2, .int (stepV (σ (pb + 2) i) (σ (pb + 3) i))), (0, .ref (ad pb)), (1, .int (nI i))]) hx hb dX8_moveOf_5 rfl hl (by decide) rfl (fun ls hl => ?_)
  refine lv_aload_n hx hb dX8_moveOf_6 rfl (lv_at hl 1 rfl) ?_
  refine lv_iload_n hx hb dX8_moveOf_7 rfl (lv_at hl 2 rfl) ?_
  refine cVie (As := [.int (nI i)]) S G pb (c_X8_meanByFriends l (D := D) (ct := ct) (ek := ek) (ad := ad) (N0 := N0) (X := X) (F := F) σ pb hpb i (by omega) n (by first | assumption | omega | (simp [sg_at]; assumption) | (simp [sg_at]; done)) (by omega)) ok_yX8_meanByFriends ml_RX8_59 (isPl0 hpb) (oP hpb) rfl hP hS hl.1 rfl (by decide) rfl rfl (Nat.le_of_ble_eq_true rfl) ⟨Nat.zero_le _, Nat.zero_le _⟩ dX8_moveOf_8 (fun H locs hP hS => ?_)
  refine lv_aload_n hx hb dX8_moveOf_11 rfl (lv_at hl 1 rfl) ?_
  refine gf S G hP pb 0 (isPl0 hpb) (oP hpb) rfl inX8 (by decide) fl_RX8_9 rfl rfl dX8_moveOf_12 ?_
  refine lv_iload_n hx hb dX8_moveOf_15 rfl (lv_at hl 2 rfl) ?_
  refine ald S G hP (pb + 1) i (isPl hpb (by decide)) ((aP1 hpb) _) rfl (by omega) (by decide) dX8_moveOf_16 ?_
  refine lv_isub hx hb dX8_moveOf_17 ?_
  refine lv_istore_n (lv' := [(3, .int ((meanV σ pb n i) - (σ (pb + 1) i))), (2, .int (stepV (σ (pb + 2) i) (σ (pb + 3) i))), (0, .ref (ad pb)), (1, .int (nI i))]) hx hb dX8_moveOf_18 rfl hl (by decide) rfl (fun ls hl => ?_)
  refine lv_iload_n hx hb dX8_moveOf_19 rfl (lv_at hl 1 rfl) ?_
  refine lv_ineg hx hb dX8_moveOf_20 ?_
  refine lv_iload_n hx hb dX8_moveOf_21 rfl (lv_at hl 1 rfl) ?_
  refine lv_iload_n hx hb dX8_moveOf_22 rfl (lv_at hl 0 rfl) ?_
  refine rmin S rfl (by decide) hl.1 ml_RX8_62 (Nat.le_of_ble_eq_true rfl) ⟨Nat.zero_le _, Nat.zero_le _⟩ dX8_moveOf_23 ?_
  refine rmax S rfl (by decide) hl.1 ml_RX8_65 (Nat.le_of_ble_eq_true rfl) ⟨Nat.zero_le _, Nat.zero_le _⟩ dX8_moveOf_26 ?_
  exact eI S hr hlocks hP hS dX8_moveOf_29 (by first | exact ⟨rfl, rfl⟩ | (refine ⟨?_, rfl⟩; simp [moveV]; done) | (simp [moveV]; done) | (simp only [moveV, ↓reduceIte, if_true, if_false, and_self, true_and]; done) | grind [moveV])

theorem ok_yX8_pairCount : COK RX8 yX8_pairCount cX8_pairCount 3 (some .int) 0 := ⟨im_yX8_pairCount, se_RX8_yX8_pairCount, in_RX8, co_yX8_pairCount, ⟨rfl, by decide +kernel, by decide +kernel, by decide +kernel⟩, by decide⟩
set_option maxHeartbeats 1000000 in
set_option maxRecDepth 100000 in
theorem c_X8_pairCount (l : Launch) {D : va_G} {ct : Nat → ClassId} {ek ad : Nat → Nat} {N0 : Nat} {X : va_W} {F : State → Prop} (σ : Mem) (pb : Nat) (hpb : isP pb) (n : Nat) (hn : σ pb 7 = nI n) (hn6 : n ≤ 6) : MI l yX8_pairCount cX8_pairCount 3 (some .int) 1 D ct ek ad N0 X F [.ref (ad pb)] σ (fun r τ => r = fo (fun q a => a + cntR (σ (pb + 7 + q)) n) 0 n / 2 ∧ τ = σ) := by
  refine ms0 (own := RX8) (by decide) rfl (Nat.le_of_ble_eq_true rfl) (fun p e s m args below meth c S hr hlocks hnm G hP hS ls hl => ?_)
  have hx := S.1
  have hb := S.2.1
  replace hl : lv_has ls 3 [(0, .ref (ad pb))] := hl
  refine lv_iconst (v := 0) hx hb dX8_pairCount_0 (by decide) ?_
  refine lv_istore_n (lv' := [(1, .int 0), (0, .ref (ad pb))]) hx hb dX8_pairCount_1 rfl hl (by decide) rfl (fun ls hl => ?_)
  refine lv_iconst (v := 0) hx hb dX8_pairCount_2 (by decide) ?_
  refine lv_istore_n (lv' := [(2, .int 0), (1, .int 0), (0, .ref (ad pb))]) hx hb dX8_pairCount_3 rfl hl (by decide) rfl (fun ls hl => ?_)
  have key_4 : ∀ (d k : Nat), k + d = n → ∀ (H : Heap) (locs : List Loc) (ls : Array Slot), wP D ct ek ad X σ H → va_S (fr N0) s.heap H locs → lv_has ls 3 [(2, .int (nI k)), (1, .int (fo (fun q a => a + cntR (σ (pb + 7 + q)) n) 0 k)), (0, .ref (ad pb))] → W p l e (rmd 1 0 0) s m args below meth c H locs 0 0 (MQ below (wQi D ct ek ad N0 X (fun r τ => r = fo (fun q a => a + cntR (σ (pb + 7 + q)) n) 0 n / 2 ∧ τ = σ)) args s 0 0 (fr N0)) (F0 m 4 ls []) := by
    intro d
    induction d with
    | zero =>
      intro k9 hk
      obtain rfl : n = k9 := by omega
      intro  H locs ls hP hS hl
      refine lv_iload_n hx hb dX8_pairCount_4 rfl (lv_at hl 0 rfl) ?_
      refine lv_aload_n hx hb dX8_pairCount_5 rfl (lv_at hl 2 rfl) ?_
      refine gf S G hP pb 7 (isPl0 hpb) (oP hpb) rfl inX8 (by decide) fl_RX8_40 rfl rfl dX8_pairCount_6 ?_
      refine lv_icmp_ge (tgt := 26) hx hb dX8_pairCount_9 (by decide) (fun c_9 => ?_) (fun c_9 => absurd (by rw [hn]; exact nI_le (by omega) (by omega)) c_9)
      refine lv_iload_n hx hb dX8_pairCount_26 rfl (lv_at hl 1 rfl) ?_
      refine lv_iconst (v := 2) hx hb dX8_pairCount_27 (by decide) ?_
      refine lv_idiv hx hb dX8_pairCount_28 (by decide) ?_
      exact eI S hr hlocks hP hS dX8_pairCount_29 (by first | exact ⟨rfl, rfl⟩ | (refine ⟨?_, rfl⟩; simp [c_9]; done) | (simp [c_9]; done) | (simp only [c_9, ↓reduceIte, if_true, if_false, and_self, true_and]; done) | grind [])
    | succ d ih =>
      intro k hk  H locs ls hP hS hl
      have hkn : k < n := by omega
      refine lv_iload_n hx hb dX8_pairCount_4 rfl (lv_at hl 0 rfl) ?_
      refine lv_aload_n hx hb dX8_pairCount_5 rfl (lv_at hl 2 rfl) ?_
      refine gf S G hP pb 7 (isPl0 hpb) (oP hpb) rfl inX8 (by decide) fl_RX8_40 rfl rfl dX8_pairCount_6 ?_
      refine lv_icmp_ge (tgt := 26) hx hb dX8_pairCount_9 (by decide) (fun c_9 => absurd c_9 (by rw [hn]; exact nI_ge (by omega) (by omega))) (fun c_9 => ?_)
      refine lv_iload_n hx hb dX8_pairCount_12 rfl (lv_at hl 1 rfl) ?_
      refine lv_aload_n hx hb dX8_pairCount_13 rfl (lv_at hl 2 rfl) ?_
      refine lv_iload_n hx hb dX8_pairCount_14 rfl (lv_at hl 0 rfl) ?_
      refine cVie (As := [.int (nI k)]) S G pb (c_X8_friendCount l (D := D) (ct := ct) (ek := ek) (ad := ad) (N0 := N0) (X := X) (F := F) σ pb hpb k (by omega) n (by first | assumption | omega | (simp [sg_at]; assumption) | (simp [sg_at]; done)) (by omega)) ok_yX8_friendCount ml_RX8_100 (isPl0 hpb) (oP hpb) rfl hP hS hl.1 rfl (by decide) rfl rfl (Nat.le_of_ble_eq_true rfl) ⟨Nat.zero_le _, Nat.zero_le _⟩ dX8_pairCount_15 (fun H locs hP hS => ?_)
      refine lv_iadd hx hb dX8_pairCount_18 ?_
      refine lv_istore_n (lv' := [(1, .int ((fo (fun q a => a + cntR (σ (pb + 7 + q)) n) 0 k) + (cntR (σ (pb + 7 + k)) n))), (2, .int (nI k)), (0, .ref (ad pb))]) hx hb dX8_pairCount_19 rfl hl (by decide) rfl (fun ls hl => ?_)
      refine lv_iinc (v := nI (k + 1)) (lv' := [(2, .int (nI (k + 1))), (1, .int ((fo (fun q a => a + cntR (σ (pb + 7 + q)) n) 0 k) + (cntR (σ (pb + 7 + k)) n))), (0, .ref (ad pb))]) hx hb dX8_pairCount_20 hl (k := 1) rfl (nI_inc _) (by decide) rfl (fun ls hl => ?_)
      refine lv_goto (tgt := 4) hx hb dX8_pairCount_23 (by decide) ?_
      exact ih (k + 1) (by omega)  _ _ _ hP hS (by first | exact lv_sub hl [0, 1, 2] rfl | (refine lv_v (lv_sub (l' := [(2, .int (nI (k + 1))), (1, .int ((fo (fun q a => a + cntR (σ (pb + 7 + q)) n) 0 k) + (cntR (σ (pb + 7 + k)) n))), (0, .ref (ad pb))]) hl [0, 1, 2] rfl) ?_; simp [fo, c_9]; done))
  exact key_4 n 0 (by omega)  _ _ _ hP hS (lv_sub hl [0, 1, 2] rfl)

theorem ok_yX8_plumbCount : COK RX8 yX8_plumbCount cX8_plumbCount 3 (some .int) 0 := ⟨im_yX8_plumbCount, se_RX8_yX8_plumbCount, in_RX8, co_yX8_plumbCount, ⟨rfl, by decide +kernel, by decide +kernel, by decide +kernel⟩, by decide⟩
set_option maxHeartbeats 1000000 in
set_option maxRecDepth 100000 in
theorem c_X8_plumbCount (l : Launch) {D : va_G} {ct : Nat → ClassId} {ek ad : Nat → Nat} {N0 : Nat} {X : va_W} {F : State → Prop} (σ : Mem) (pb : Nat) (hpb : isP pb) (n : Nat) (hn : σ pb 7 = nI n) (hn6 : n ≤ 6) : MI l yX8_plumbCount cX8_plumbCount 3 (some .int) 0 D ct ek ad N0 X F [.ref (ad pb)] σ (fun r τ => r = plmR (σ (pb + 1)) n ∧ τ = σ) := by
  refine ms0 (own := RX8) (by decide) rfl (Nat.le_of_ble_eq_true rfl) (fun p e s m args below meth c S hr hlocks hnm G hP hS ls hl => ?_)
  have hx := S.1
  have hb := S.2.1
  replace hl : lv_has ls 3 [(0, .ref (ad pb))] := hl
  refine lv_iconst (v := 0) hx hb dX8_plumbCount_0 (by decide) ?_
  refine lv_istore_n (lv' := [(1, .int 0), (0, .ref (ad pb))]) hx hb dX8_plumbCount_1 rfl hl (by decide) rfl (fun ls hl => ?_)
  refine lv_iconst (v := 0) hx hb dX8_plumbCount_2 (by decide) ?_
  refine lv_istore_n (lv' := [(2, .int 0), (1, .int 0), (0, .ref (ad pb))]) hx hb dX8_plumbCount_3 rfl hl (by decide) rfl (fun ls hl => ?_)
  have key_4 : ∀ (d k : Nat), k + d = n → ∀ (H : Heap) (locs : List Loc) (ls : Array Slot), wP D ct ek ad X σ H → va_S (fr N0) s.heap H locs → lv_has ls 3 [(2, .int (nI k)), (1, .int (plmR (σ (pb + 1)) k)), (0, .ref (ad pb))] → W p l e (rmd 0 0 0) s m args below meth c H locs 0 0 (MQ below (wQi D ct ek ad N0 X (fun r τ => r = plmR (σ (pb + 1)) n ∧ τ = σ)) args s 0 0 (fr N0)) (F0 m 4 ls []) := by
    intro d
    induction d with
    | zero =>
      intro k9 hk
      obtain rfl : n = k9 := by omega
      intro  H locs ls hP hS hl
      refine lv_iload_n hx hb dX8_plumbCount_4 rfl (lv_at hl 0 rfl) ?_
      refine lv_aload_n hx hb dX8_plumbCount_5 rfl (lv_at hl 2 rfl) ?_
      refine gf S G hP pb 7 (isPl0 hpb) (oP hpb) rfl inX8 (by decide) fl_RX8_40 rfl rfl dX8_plumbCount_6 ?_
      refine lv_icmp_ge (tgt := 30) hx hb dX8_plumbCount_9 (by decide) (fun c_9 => ?_) (fun c_9 => absurd (by rw [hn]; exact nI_le (by omega) (by omega)) c_9)
      refine lv_iload_n hx hb dX8_plumbCount_30 rfl (lv_at hl 1 rfl) ?_
      exact eI S hr hlocks hP hS dX8_plumbCount_31 (by first | (refine ⟨?_, ?_⟩ <;> simp only [plmR, c_9, ↓reduceIte, if_true, if_false, eq_self]; done) | (refine ⟨?_, rfl⟩; simp only [plmR, c_9, ↓reduceIte, if_true, if_false, eq_self]; done) | exact ⟨rfl, rfl⟩ | (refine ⟨?_, rfl⟩; simp [plmR, c_9]; done) | (simp [plmR, c_9]; done) | grind [plmR])
    | succ d ih =>
      intro k hk  H locs ls hP hS hl
      have hkn : k < n := by omega
      refine lv_iload_n hx hb dX8_plumbCount_4 rfl (lv_at hl 0 rfl) ?_
      refine lv_aload_n hx hb dX8_plumbCount_5 rfl (lv_at hl 2 rfl) ?_
      refine gf S G hP pb 7 (isPl0 hpb) (oP hpb) rfl inX8 (by decide) fl_RX8_40 rfl rfl dX8_plumbCount_6 ?_
      refine lv_icmp_ge (tgt := 30) hx hb dX8_plumbCount_9 (by decide) (fun c_9 => absurd c_9 (by rw [hn]; exact nI_ge (by omega) (by omega))) (fun c_9 => ?_)
      refine lv_aload_n hx hb dX8_plumbCount_12 rfl (lv_at hl 2 rfl) ?_
      refine gf S G hP pb 0 (isPl0 hpb) (oP hpb) rfl inX8 (by decide) fl_RX8_9 rfl rfl dX8_plumbCount_13 ?_
      refine lv_iload_n hx hb dX8_plumbCount_16 rfl (lv_at hl 0 rfl) ?_
      refine ald S G hP (pb + 1) k (isPl hpb (by decide)) ((aP1 hpb) _) rfl (by omega) (by decide) dX8_plumbCount_17 ?_
      refine lv_if_ne (tgt := 24) hx hb dX8_plumbCount_18 (by decide) (fun c_18 => ?_) (fun c_18 => ?_)
      · refine lv_iinc (v := nI (k + 1)) (lv' := [(2, .int (nI (k + 1))), (1, .int (plmR (σ (pb + 1)) k)), (0, .ref (ad pb))]) hx hb dX8_plumbCount_24 hl (k := 0) rfl (nI_inc _) (by decide) rfl (fun ls hl => ?_)
        refine lv_goto (tgt := 4) hx hb dX8_plumbCount_27 (by decide) ?_
        exact ih (k + 1) (by omega)  _ _ _ hP hS (by first | (refine lv_v (lv_sub (l' := [(2, .int (nI (k + 1))), (1, .int (plmR (σ (pb + 1)) k)), (0, .ref (ad pb))]) hl [0, 1, 2] rfl) ?_; simp [fo, plmR, c_9, c_18]; done) | exact lv_sub hl [0, 1, 2] rfl)
      · refine lv_iinc (v := (plmR (σ (pb + 1)) k) + 1) (lv' := [(1, .int ((plmR (σ (pb + 1)) k) + 1)), (2, .int (nI k)), (0, .ref (ad pb))]) hx hb dX8_plumbCount_21 hl (k := 1) rfl rfl (by decide) rfl (fun ls hl => ?_)
        refine lv_iinc (v := nI (k + 1)) (lv' := [(2, .int (nI (k + 1))), (1, .int ((plmR (σ (pb + 1)) k) + 1)), (0, .ref (ad pb))]) hx hb dX8_plumbCount_24 hl (k := 1) rfl (nI_inc _) (by decide) rfl (fun ls hl => ?_)
        refine lv_goto (tgt := 4) hx hb dX8_plumbCount_27 (by decide) ?_
        exact ih (k + 1) (by omega)  _ _ _ hP hS (by first | (refine lv_v (lv_sub (l' := [(2, .int (nI (k + 1))), (1, .int ((plmR (σ (pb + 1)) k) + 1)), (0, .ref (ad pb))]) hl [0, 1, 2] rfl) ?_; simp [fo, plmR, c_9, c_18]; done) | exact lv_sub hl [0, 1, 2] rfl)
  exact key_4 n 0 (by omega)  _ _ _ hP hS (lv_sub hl [0, 1, 2] rfl)

theorem ok_yX8_tiltSum : COK RX8 yX8_tiltSum cX8_tiltSum 3 (some .int) 0 := ⟨im_yX8_tiltSum, se_RX8_yX8_tiltSum, in_RX8, co_yX8_tiltSum, ⟨rfl, by decide +kernel, by decide +kernel, by decide +kernel⟩, by decide⟩
set_option maxHeartbeats 1000000 in
set_option maxRecDepth 100000 in
theorem c_X8_tiltSum (l : Launch) {D : va_G} {ct : Nat → ClassId} {ek ad : Nat → Nat} {N0 : Nat} {X : va_W} {F : State → Prop} (σ : Mem) (pb : Nat) (hpb : isP pb) (n : Nat) (hn : σ pb 7 = nI n) (hn6 : n ≤ 6) : MI l yX8_tiltSum cX8_tiltSum 3 (some .int) 0 D ct ek ad N0 X F [.ref (ad pb)] σ (fun r τ => r = sumR (σ (pb + 1)) 0 n ∧ τ = σ) := by
  refine ms0 (own := RX8) (by decide) rfl (Nat.le_of_ble_eq_true rfl) (fun p e s m args below meth c S hr hlocks hnm G hP hS ls hl => ?_)
  have hx := S.1
  have hb := S.2.1
  replace hl : lv_has ls 3 [(0, .ref (ad pb))] := hl
  refine lv_iconst (v := 0) hx hb dX8_tiltSum_0 (by decide) ?_
  refine lv_istore_n (lv' := [(1, .int 0), (0, .ref (ad pb))]) hx hb dX8_tiltSum_1 rfl hl (by decide) rfl (fun ls hl => ?_)
  refine lv_iconst (v := 0) hx hb dX8_tiltSum_2 (by decide) ?_
  refine lv_istore_n (lv' := [(2, .int 0), (1, .int 0), (0, .ref (ad pb))]) hx hb dX8_tiltSum_3 rfl hl (by decide) rfl (fun ls hl => ?_)
  have key_4 : ∀ (d k : Nat), k + d = n → ∀ (H : Heap) (locs : List Loc) (ls : Array Slot), wP D ct ek ad X σ H → va_S (fr N0) s.heap H locs → lv_has ls 3 [(2, .int (nI k)), (1, .int (sumR (σ (pb + 1)) 0 k)), (0, .ref (ad pb))] → W p l e (rmd 0 0 0) s m args below meth c H locs 0 0 (MQ below (wQi D ct ek ad N0 X (fun r τ => r = sumR (σ (pb + 1)) 0 n ∧ τ = σ)) args s 0 0 (fr N0)) (F0 m 4 ls []) := by
    intro d
    induction d with
    | zero =>
      intro k9 hk
      obtain rfl : n = k9 := by omega
      intro  H locs ls hP hS hl
      refine lv_iload_n hx hb dX8_tiltSum_4 rfl (lv_at hl 0 rfl) ?_
      refine lv_aload_n hx hb dX8_tiltSum_5 rfl (lv_at hl 2 rfl) ?_
      refine gf S G hP pb 7 (isPl0 hpb) (oP hpb) rfl inX8 (by decide) fl_RX8_40 rfl rfl dX8_tiltSum_6 ?_
      refine lv_icmp_ge (tgt := 27) hx hb dX8_tiltSum_9 (by decide) (fun c_9 => ?_) (fun c_9 => absurd (by rw [hn]; exact nI_le (by omega) (by omega)) c_9)
      refine lv_iload_n hx hb dX8_tiltSum_27 rfl (lv_at hl 1 rfl) ?_
      exact eI S hr hlocks hP hS dX8_tiltSum_28 (by first | (refine ⟨?_, ?_⟩ <;> simp only [sumR, c_9, ↓reduceIte, if_true, if_false, eq_self]; done) | (refine ⟨?_, rfl⟩; simp only [sumR, c_9, ↓reduceIte, if_true, if_false, eq_self]; done) | exact ⟨rfl, rfl⟩ | (refine ⟨?_, rfl⟩; simp [sumR, c_9]; done) | (simp [sumR, c_9]; done) | grind [sumR])
    | succ d ih =>
      intro k hk  H locs ls hP hS hl
      have hkn : k < n := by omega
      refine lv_iload_n hx hb dX8_tiltSum_4 rfl (lv_at hl 0 rfl) ?_
      refine lv_aload_n hx hb dX8_tiltSum_5 rfl (lv_at hl 2 rfl) ?_
      refine gf S G hP pb 7 (isPl0 hpb) (oP hpb) rfl inX8 (by decide) fl_RX8_40 rfl rfl dX8_tiltSum_6 ?_
      refine lv_icmp_ge (tgt := 27) hx hb dX8_tiltSum_9 (by decide) (fun c_9 => absurd c_9 (by rw [hn]; exact nI_ge (by omega) (by omega))) (fun c_9 => ?_)
      refine lv_iload_n hx hb dX8_tiltSum_12 rfl (lv_at hl 1 rfl) ?_
      refine lv_aload_n hx hb dX8_tiltSum_13 rfl (lv_at hl 2 rfl) ?_
      refine gf S G hP pb 0 (isPl0 hpb) (oP hpb) rfl inX8 (by decide) fl_RX8_9 rfl rfl dX8_tiltSum_14 ?_
      refine lv_iload_n hx hb dX8_tiltSum_17 rfl (lv_at hl 0 rfl) ?_
      refine ald S G hP (pb + 1) k (isPl hpb (by decide)) ((aP1 hpb) _) rfl (by omega) (by decide) dX8_tiltSum_18 ?_
      refine lv_iadd hx hb dX8_tiltSum_19 ?_
      refine lv_istore_n (lv' := [(1, .int ((sumR (σ (pb + 1)) 0 k) + (σ (pb + 1) k))), (2, .int (nI k)), (0, .ref (ad pb))]) hx hb dX8_tiltSum_20 rfl hl (by decide) rfl (fun ls hl => ?_)
      refine lv_iinc (v := nI (k + 1)) (lv' := [(2, .int (nI (k + 1))), (1, .int ((sumR (σ (pb + 1)) 0 k) + (σ (pb + 1) k))), (0, .ref (ad pb))]) hx hb dX8_tiltSum_21 hl (k := 1) rfl (nI_inc _) (by decide) rfl (fun ls hl => ?_)
      refine lv_goto (tgt := 4) hx hb dX8_tiltSum_24 (by decide) ?_
      exact ih (k + 1) (by omega)  _ _ _ hP hS (by first | exact lv_sub hl [0, 1, 2] rfl | (refine lv_v (lv_sub (l' := [(2, .int (nI (k + 1))), (1, .int ((sumR (σ (pb + 1)) 0 k) + (σ (pb + 1) k))), (0, .ref (ad pb))]) hl [0, 1, 2] rfl) ?_; simp [fo, sumR, c_9]; done))
  exact key_4 n 0 (by omega)  _ _ _ hP hS (lv_sub hl [0, 1, 2] rfl)

theorem ok_yX8_factSum : COK RX8 yX8_factSum cX8_factSum 3 (some .int) 0 := ⟨im_yX8_factSum, se_RX8_yX8_factSum, in_RX8, co_yX8_factSum, ⟨rfl, by decide +kernel, by decide +kernel, by decide +kernel⟩, by decide⟩
set_option maxHeartbeats 1000000 in
set_option maxRecDepth 100000 in
theorem c_X8_factSum (l : Launch) {D : va_G} {ct : Nat → ClassId} {ek ad : Nat → Nat} {N0 : Nat} {X : va_W} {F : State → Prop} (σ : Mem) (pb : Nat) (hpb : isP pb) (n : Nat) (hn : σ pb 7 = nI n) (hn6 : n ≤ 6) : MI l yX8_factSum cX8_factSum 3 (some .int) 0 D ct ek ad N0 X F [.ref (ad pb)] σ (fun r τ => r = sumR (σ (pb + 4)) 0 n ∧ τ = σ) := by
  refine ms0 (own := RX8) (by decide) rfl (Nat.le_of_ble_eq_true rfl) (fun p e s m args below meth c S hr hlocks hnm G hP hS ls hl => ?_)
  have hx := S.1
  have hb := S.2.1
  replace hl : lv_has ls 3 [(0, .ref (ad pb))] := hl
  refine lv_iconst (v := 0) hx hb dX8_factSum_0 (by decide) ?_
  refine lv_istore_n (lv' := [(1, .int 0), (0, .ref (ad pb))]) hx hb dX8_factSum_1 rfl hl (by decide) rfl (fun ls hl => ?_)
  refine lv_iconst (v := 0) hx hb dX8_factSum_2 (by decide) ?_
  refine lv_istore_n (lv' := [(2, .int 0), (1, .int 0), (0, .ref (ad pb))]) hx hb dX8_factSum_3 rfl hl (by decide) rfl (fun ls hl => ?_)
  have key_4 : ∀ (d k : Nat), k + d = n → ∀ (H : Heap) (locs : List Loc) (ls : Array Slot), wP D ct ek ad X σ H → va_S (fr N0) s.heap H locs → lv_has ls 3 [(2, .int (nI k)), (1, .int (sumR (σ (pb + 4)) 0 k)), (0, .ref (ad pb))] → W p l e (rmd 0 0 0) s m args below meth c H locs 0 0 (MQ below (wQi D ct ek ad N0 X (fun r τ => r = sumR (σ (pb + 4)) 0 n ∧ τ = σ)) args s 0 0 (fr N0)) (F0 m 4 ls []) := by
    intro d
    induction d with
    | zero =>
      intro k9 hk
      obtain rfl : n = k9 := by omega
      intro  H locs ls hP hS hl
      refine lv_iload_n hx hb dX8_factSum_4 rfl (lv_at hl 0 rfl) ?_
      refine lv_aload_n hx hb dX8_factSum_5 rfl (lv_at hl 2 rfl) ?_
      refine gf S G hP pb 7 (isPl0 hpb) (oP hpb) rfl inX8 (by decide) fl_RX8_40 rfl rfl dX8_factSum_6 ?_
      refine lv_icmp_ge (tgt := 27) hx hb dX8_factSum_9 (by decide) (fun c_9 => ?_) (fun c_9 => absurd (by rw [hn]; exact nI_le (by omega) (by omega)) c_9)
      refine lv_iload_n hx hb dX8_factSum_27 rfl (lv_at hl 1 rfl) ?_
      exact eI S hr hlocks hP hS dX8_factSum_28 (by first | (refine ⟨?_, ?_⟩ <;> simp only [sumR, c_9, ↓reduceIte, if_true, if_false, eq_self]; done) | (refine ⟨?_, rfl⟩; simp only [sumR, c_9, ↓reduceIte, if_true, if_false, eq_self]; done) | exact ⟨rfl, rfl⟩ | (refine ⟨?_, rfl⟩; simp [sumR, c_9]; done) | (simp [sumR, c_9]; done) | grind [sumR])
    | succ d ih =>
      intro k hk  H locs ls hP hS hl
      have hkn : k < n := by omega
      refine lv_iload_n hx hb dX8_factSum_4 rfl (lv_at hl 0 rfl) ?_
      refine lv_aload_n hx hb dX8_factSum_5 rfl (lv_at hl 2 rfl) ?_
      refine gf S G hP pb 7 (isPl0 hpb) (oP hpb) rfl inX8 (by decide) fl_RX8_40 rfl rfl dX8_factSum_6 ?_
      refine lv_icmp_ge (tgt := 27) hx hb dX8_factSum_9 (by decide) (fun c_9 => absurd c_9 (by rw [hn]; exact nI_ge (by omega) (by omega))) (fun c_9 => ?_)
      refine lv_iload_n hx hb dX8_factSum_12 rfl (lv_at hl 1 rfl) ?_
      refine lv_aload_n hx hb dX8_factSum_13 rfl (lv_at hl 2 rfl) ?_
      refine gf S G hP pb 3 (isPl0 hpb) (oP hpb) rfl inX8 (by decide) fl_RX8_20 rfl rfl dX8_factSum_14 ?_
      refine lv_iload_n hx hb dX8_factSum_17 rfl (lv_at hl 0 rfl) ?_
      refine ald S G hP (pb + 4) k (isPl hpb (by decide)) ((aP4 hpb) _) rfl (by omega) (by decide) dX8_factSum_18 ?_
      refine lv_iadd hx hb dX8_factSum_19 ?_
      refine lv_istore_n (lv' := [(1, .int ((sumR (σ (pb + 4)) 0 k) + (σ (pb + 4) k))), (2, .int (nI k)), (0, .ref (ad pb))]) hx hb dX8_factSum_20 rfl hl (by decide) rfl (fun ls hl => ?_)
      refine lv_iinc (v := nI (k + 1)) (lv' := [(2, .int (nI (k + 1))), (1, .int ((sumR (σ (pb + 4)) 0 k) + (σ (pb + 4) k))), (0, .ref (ad pb))]) hx hb dX8_factSum_21 hl (k := 1) rfl (nI_inc _) (by decide) rfl (fun ls hl => ?_)
      refine lv_goto (tgt := 4) hx hb dX8_factSum_24 (by decide) ?_
      exact ih (k + 1) (by omega)  _ _ _ hP hS (by first | exact lv_sub hl [0, 1, 2] rfl | (refine lv_v (lv_sub (l' := [(2, .int (nI (k + 1))), (1, .int ((sumR (σ (pb + 4)) 0 k) + (σ (pb + 4) k))), (0, .ref (ad pb))]) hl [0, 1, 2] rfl) ?_; simp [fo, sumR, c_9]; done))
  exact key_4 n 0 (by omega)  _ _ _ hP hS (lv_sub hl [0, 1, 2] rfl)

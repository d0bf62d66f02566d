/-! the reference: its changes (laid by wip/whole/spec_model3.py) -/
theorem ok_yX11_passes : COK RX11 yX11_passes cX11_passes 1 (some .boolean) 0 := ⟨im_yX11_passes, se_RX11_yX11_passes, in_RX11, co_yX11_passes, ⟨rfl, by decide +kernel, by decide +kernel, by decide +kernel⟩, by decide⟩
set_option maxHeartbeats 1000000 in
set_option maxRecDepth 100000 in
theorem c_X11_passes (l : Launch) {D : va_G} {ct : Nat → ClassId} {ek ad : Nat → Nat} {N0 : Nat} {X : va_W} {F : State → Prop} (σ : Mem) (n : Nat) (mb : Nat) (hR : RowOK (σ 277) n mb) : MI l yX11_passes cX11_passes 1 (some .boolean) 5 D ct ek ad N0 X F [.ref (ad 276)] σ (fun r τ => r = pasB n ∧ τ = pasM σ n mb) := by
  refine ms0 (own := RX11) (by decide) rfl (Nat.le_of_ble_eq_true rfl) (fun p e s m args below meth c S hr hlocks hnm G hP hS ls hl => ?_)
  have hx := S.1
  have hb := S.2.1
  replace hl : lv_has ls 1 [(0, .ref (ad 276))] := hl
  have hn := hR.1
  have hn6 := hR.2.1
  have hm := hR.2.2.1
  have hm6 := hR.2.2.2.1
  have hBq := hR.2.2.2.2.2.2
  refine lv_aload_n hx hb dX11_passes_0 rfl (lv_at hl 0 rfl) ?_
  refine gf S G hP 276 0 (by decide) oM rfl inX11 (by decide) fl_RX11_9 rfl rfl dX11_passes_1 ?_
  refine lv_iconst (v := 0) hx hb dX11_passes_4 (by decide) ?_
  refine ald S G hP 277 0 (by decide) (aM277 _) (by decide) (by omega) (by decide) dX11_passes_5 ?_
  refine lv_if_ne (tgt := 24) hx hb dX11_passes_6 (by decide) (fun c_6 => ?_) (fun c_6 => ?_)
  · have h0 : ¬ n = 0 := fun h => c_6 (by rw [hn, h]; exact nI_0)
    refine lv_aload_n hx hb dX11_passes_24 rfl (lv_at hl 0 rfl) ?_
    refine lv_aload_n hx hb dX11_passes_25 rfl (lv_at hl 0 rfl) ?_
    refine cVie (As := []) S G 276 (c_X11_goesBy l (D := D) (ct := ct) (ek := ek) (ad := ad) (N0 := N0) (X := X) (F := F) σ n mb (by first | assumption | omega | (simp [sg_at]; assumption) | (simp [sg_at]; done))) ok_yX11_goesBy ml_RX11_142 (by decide) oM rfl hP hS hl.1 rfl (by decide) rfl rfl (Nat.le_of_ble_eq_true rfl) ⟨Nat.zero_le _, Nat.zero_le _⟩ dX11_passes_26 (fun H locs hP hS => ?_)
    refine cVie (As := [.int (gmV (σ 277) n n)]) S G 276 (c_X11_does l (D := D) (ct := ct) (ek := ek) (ad := ad) (N0 := N0) (X := X) (F := F) (goM σ n mb) (gmV (σ 277) n n)) ok_yX11_does ml_RX11_113 (by decide) oM rfl hP hS hl.1 rfl (by decide) rfl rfl (Nat.le_of_ble_eq_true rfl) ⟨Nat.zero_le _, Nat.zero_le _⟩ dX11_passes_29 (fun H locs hP hS => ?_)
    exact eZ S hr hlocks hP hS (by decide) dX11_passes_32 (by first | (refine ⟨?_, ?_⟩ <;> simp only [pasB, pasM, c_6, h0, ↓reduceIte, if_true, if_false, eq_self]; done) | (refine ⟨?_, rfl⟩; simp only [pasB, pasM, c_6, h0, ↓reduceIte, if_true, if_false, eq_self]; done) | exact ⟨rfl, rfl⟩ | (refine ⟨?_, rfl⟩; simp [pasB, pasM, c_6, h0]; done) | (simp [pasB, pasM, c_6, h0]; done) | grind [pasB, pasM])
  · have h0 : n = 0 := by rw [hn] at c_6; exact (nI_eq (by omega) (by omega)).mp c_6
    refine lv_aload_n hx hb dX11_passes_9 rfl (lv_at hl 0 rfl) ?_
    refine lv_bipush (v := 10) hx hb dX11_passes_10 (by decide) ?_
    refine lv_aload_n hx hb dX11_passes_12 rfl (lv_at hl 0 rfl) ?_
    refine gf S G hP 276 0 (by decide) oM rfl inX11 (by decide) fl_RX11_9 rfl rfl dX11_passes_13 ?_
    refine lv_iconst (v := 2) hx hb dX11_passes_16 (by decide) ?_
    refine ald S G hP 277 2 (by decide) (aM277 _) (by decide) (by omega) (by decide) dX11_passes_17 ?_
    refine cVie (As := [.int 10, .int (σ 277 2)]) S G 276 (c_X11_refuses l (D := D) (ct := ct) (ek := ek) (ad := ad) (N0 := N0) (X := X) (F := F) σ 10 (σ 277 2)) ok_yX11_refuses ml_RX11_75 (by decide) oM rfl hP hS hl.1 rfl (by decide) rfl rfl (Nat.le_of_ble_eq_true rfl) ⟨Nat.zero_le _, Nat.zero_le _⟩ dX11_passes_18 (fun H locs hP hS => ?_)
    refine lv_goto (tgt := 32) hx hb dX11_passes_21 (by decide) ?_
    exact eZ S hr hlocks hP hS (by decide) dX11_passes_32 (by first | (refine ⟨?_, ?_⟩ <;> simp only [pasB, pasM, c_6, h0, ↓reduceIte, if_true, if_false, eq_self]; done) | (refine ⟨?_, rfl⟩; simp only [pasB, pasM, c_6, h0, ↓reduceIte, if_true, if_false, eq_self]; done) | exact ⟨rfl, rfl⟩ | (refine ⟨?_, rfl⟩; simp [pasB, pasM, c_6, h0]; done) | (simp [pasB, pasM, c_6, h0]; done) | grind [pasB, pasM])

theorem ok_yX11_round : COK RX11 yX11_round cX11_round 1 (some .int) 0 := ⟨im_yX11_round, se_RX11_yX11_round, in_RX11, co_yX11_round, ⟨rfl, by decide +kernel, by decide +kernel, by decide +kernel⟩, by decide⟩
set_option maxHeartbeats 1000000 in
set_option maxRecDepth 100000 in
theorem c_X11_round (l : Launch) {D : va_G} {ct : Nat → ClassId} {ek ad : Nat → Nat} {N0 : Nat} {X : va_W} {F : State → Prop} (σ : Mem) (n : Nat) (mb : Nat) (hR : RowOK (σ 277) n mb) (u : Nat) (hu : σ 276 4 = nI u) (hu8 : u ≤ 8) : MI l yX11_round cX11_round 1 (some .int) 6 D ct ek ad N0 X F [.ref (ad 276)] σ (fun r τ => r = endV (pasB n) (pasM (triM σ) n mb) ∧ τ = endM (pasB n) (pasM (triM σ) n mb) u) := by
  refine ms0 (own := RX11) (by decide) rfl (Nat.le_of_ble_eq_true rfl) (fun p e s m args below meth c S hr hlocks hnm G hP hS ls hl => ?_)
  have hx := S.1
  have hb := S.2.1
  replace hl : lv_has ls 1 [(0, .ref (ad 276))] := hl
  refine lv_aload_n hx hb dX11_round_0 rfl (lv_at hl 0 rfl) ?_
  refine cVve (As := []) S G 276 (c_X11_tries l (D := D) (ct := ct) (ek := ek) (ad := ad) (N0 := N0) (X := X) (F := F) σ) ok_yX11_tries ml_RX11_116 (by decide) oM rfl hP hS hl.1 rfl (by decide) rfl rfl (Nat.le_of_ble_eq_true rfl) ⟨Nat.zero_le _, Nat.zero_le _⟩ dX11_round_1 (fun H locs hP hS => ?_)
  refine lv_aload_n hx hb dX11_round_4 rfl (lv_at hl 0 rfl) ?_
  refine lv_aload_n hx hb dX11_round_5 rfl (lv_at hl 0 rfl) ?_
  refine cVie (As := []) S G 276 (c_X11_passes l (D := D) (ct := ct) (ek := ek) (ad := ad) (N0 := N0) (X := X) (F := F) (triM σ) n mb (by rw [triM_c (by decide) (by decide)]; exact hR)) ok_yX11_passes ml_RX11_146 (by decide) oM rfl hP hS hl.1 rfl (by decide) rfl rfl (Nat.le_of_ble_eq_true rfl) ⟨Nat.zero_le _, Nat.zero_le _⟩ dX11_round_6 (fun H locs hP hS => ?_)
  refine cVie (As := [.int (pasB n)]) S G 276 (c_X11_ends l (D := D) (ct := ct) (ek := ek) (ad := ad) (N0 := N0) (X := X) (F := F) (pasM (triM σ) n mb) (pasB n) u (by rw [pasM_k (by decide), triM_276 (by decide)]; exact hu) (by omega)) ok_yX11_ends ml_RX11_122 (by decide) oM rfl hP hS hl.1 rfl (by decide) rfl rfl (Nat.le_of_ble_eq_true rfl) ⟨Nat.zero_le _, Nat.zero_le _⟩ dX11_round_9 (fun H locs hP hS => ?_)
  exact eI S hr hlocks hP hS dX11_round_12 (by first | exact ⟨rfl, rfl⟩ | (refine ⟨?_, rfl⟩; simp []; done) | (simp []; done) | (simp only [↓reduceIte, if_true, if_false, and_self, true_and]; done) | grind [])

theorem ok_yX11_forceOf : COK RX11 yX11_forceOf cX11_forceOf 3 (some .int) 2 := ⟨im_yX11_forceOf, se_RX11_yX11_forceOf, in_RX11, co_yX11_forceOf, ⟨rfl, by decide +kernel, by decide +kernel, by decide +kernel⟩, by decide⟩
set_option maxHeartbeats 1000000 in
set_option maxRecDepth 100000 in
theorem c_X11_forceOf (l : Launch) {D : va_G} {ct : Nat → ClassId} {ek ad : Nat → Nat} {N0 : Nat} {X : va_W} {F : State → Prop} (σ : Mem) (i : Nat) (hi : i < 6) (x : Int32) : MI l yX11_forceOf cX11_forceOf 3 (some .int) 1 D ct ek ad N0 X F [.ref (ad 276), .int (nI i), .int x] σ (fun r τ => r = frR (σ 277) i x ∧ τ = σ) := by
  refine ms0 (own := RX11) (by decide) rfl (Nat.le_of_ble_eq_true rfl) (fun p e s m args below meth c S hr hlocks hnm G hP hS ls hl => ?_)
  have hx := S.1
  have hb := S.2.1
  replace hl : lv_has ls 3 [(0, .ref (ad 276)), (1, .int (nI i)), (2, .int x)] := hl
  refine lv_iconst (v := 0) hx hb dX11_forceOf_0 (by decide) ?_
  refine lv_iload_n hx hb dX11_forceOf_1 rfl (lv_at hl 2 rfl) ?_
  refine lv_aload_n hx hb dX11_forceOf_2 rfl (lv_at hl 0 rfl) ?_
  refine lv_iload_n hx hb dX11_forceOf_3 rfl (lv_at hl 1 rfl) ?_
  refine lv_iconst (v := 1) hx hb dX11_forceOf_4 (by decide) ?_
  refine cVie (As := [.int (nI i), .int (nI 1)]) S G 276 (c_X11_of l (D := D) (ct := ct) (ek := ek) (ad := ad) (N0 := N0) (X := X) (F := F) σ i (by omega) 1 (by omega)) ok_yX11_of ml_RX11_83 (by decide) oM rfl hP hS hl.1 rfl (by decide) rfl rfl (Nat.le_of_ble_eq_true rfl) ⟨Nat.zero_le _, Nat.zero_le _⟩ dX11_forceOf_5 (fun H locs hP hS => ?_)
  refine lv_iconst (v := 3) hx hb dX11_forceOf_8 (by decide) ?_
  refine lv_idiv hx hb dX11_forceOf_9 (by decide) ?_
  refine lv_isub hx hb dX11_forceOf_10 ?_
  refine rmax S rfl (by decide) hl.1 ml_RX11_106 (Nat.le_of_ble_eq_true rfl) ⟨Nat.zero_le _, Nat.zero_le _⟩ dX11_forceOf_11 ?_
  exact eI S hr hlocks hP hS dX11_forceOf_14 (by first | exact ⟨rfl, rfl⟩ | (refine ⟨?_, rfl⟩; simp [frR]; done) | (simp [frR]; done) | (simp only [frR, ↓reduceIte, if_true, if_false, and_self, true_and]; done) | grind [frR])

theorem ok_yX11_tells : COK RX11 yX11_tells cX11_tells 6 (some .boolean) 2 := ⟨im_yX11_tells, se_RX11_yX11_tells, in_RX11, co_yX11_tells, ⟨rfl, by decide +kernel, by decide +kernel, by decide +kernel⟩, by decide⟩
set_option maxHeartbeats 1000000 in
set_option maxRecDepth 100000 in
theorem c_X11_tells (l : Launch) {D : va_G} {ct : Nat → ClassId} {ek ad : Nat → Nat} {N0 : Nat} {X : va_W} {F : State → Prop} (σ : Mem) (x : Int32) (y : Int32) (n : Nat) (hn : σ 277 0 = nI n) (hn6 : n ≤ 6) : MI l yX11_tells cX11_tells 6 (some .boolean) 3 D ct ek ad N0 X F [.ref (ad 276), .int x, .int y] σ (fun r τ => r = rtlB σ x y ∧ τ = rtlM σ x y) := by
  refine ms0 (own := RX11) (by decide) rfl (Nat.le_of_ble_eq_true rfl) (fun p e s m args below meth c S hr hlocks hnm G hP hS ls hl => ?_)
  have hx := S.1
  have hb := S.2.1
  replace hl : lv_has ls 6 [(0, .ref (ad 276)), (1, .int x), (2, .int y)] := hl
  refine lv_aload_n hx hb dX11_tells_0 rfl (lv_at hl 0 rfl) ?_
  refine lv_iload_n hx hb dX11_tells_1 rfl (lv_at hl 1 rfl) ?_
  refine cVie (As := [.int x]) S G 276 (c_X11_isThere l (D := D) (ct := ct) (ek := ek) (ad := ad) (N0 := N0) (X := X) (F := F) σ x) ok_yX11_isThere ml_RX11_126 (by decide) oM rfl hP hS hl.1 rfl (by decide) rfl rfl (Nat.le_of_ble_eq_true rfl) ⟨Nat.zero_le _, Nat.zero_le _⟩ dX11_tells_2 (fun H locs hP hS => ?_)
  refine lv_if_ne (tgt := 10) hx hb dX11_tells_5 (by decide) (fun c_5 => ?_) (fun c_5 => ?_)
  · rw [tcM_1 c_5] at hP
    refine lv_iload_n hx hb dX11_tells_10 rfl (lv_at hl 2 rfl) ?_
    refine lv_iconst (v := 1) hx hb dX11_tells_11 (by decide) ?_
    refine lv_bipush (v := 9) hx hb dX11_tells_12 (by decide) ?_
    refine cSie (As := [.int y, .int 1, .int 9]) S G (c_X11_in l (D := D) (ct := ct) (ek := ek) (ad := ad) (N0 := N0) (X := X) (F := F) σ y 1 9) ok_yX11_in ml_RX11_67 hP hS hl.1 rfl (by decide) rfl rfl (Nat.le_of_ble_eq_true rfl) ⟨Nat.zero_le _, Nat.zero_le _⟩ dX11_tells_14 (fun H locs hP hS => ?_)
    refine lv_if_ne (tgt := 27) hx hb dX11_tells_17 (by decide) (fun c_17 => ?_) (fun c_17 => ?_)
    · obtain ⟨h1, h1l⟩ := tcB_N c_5 hn hn6
      refine lv_aload_n hx hb dX11_tells_27 rfl (lv_at hl 0 rfl) ?_
      refine lv_iload_n hx hb dX11_tells_28 rfl (lv_at hl 1 rfl) ?_
      refine lv_tope (y := nI (tN (x))) h1 ?_
      refine lv_iconst (v := 0) hx hb dX11_tells_29 (by decide) ?_
      refine cVie (As := [.int (nI (tN (x))), .int (nI 0)]) S G 276 (c_X11_of l (D := D) (ct := ct) (ek := ek) (ad := ad) (N0 := N0) (X := X) (F := F) σ (tN (x)) (by omega) 0 (by omega)) ok_yX11_of ml_RX11_83 (by decide) oM rfl hP hS hl.1 rfl (by decide) rfl rfl (Nat.le_of_ble_eq_true rfl) ⟨Nat.zero_le _, Nat.zero_le _⟩ dX11_tells_30 (fun H locs hP hS => ?_)
      refine lv_istore_n (lv' := [(3, .int (σ 277 (6 + 5 * (tN (x)) + 0))), (0, .ref (ad 276)), (1, .int x), (2, .int y)]) hx hb dX11_tells_33 rfl hl (by decide) rfl (fun ls hl => ?_)
      refine lv_iload_n hx hb dX11_tells_34 rfl (lv_at hl 0 rfl) ?_
      refine lv_if_ne (tgt := 51) hx hb dX11_tells_35 (by decide) (fun c_35 => ?_) (fun c_35 => ?_)
      · refine lv_aload_n hx hb dX11_tells_51 rfl (lv_at hl 1 rfl) ?_
        refine lv_iload_n hx hb dX11_tells_52 rfl (lv_at hl 2 rfl) ?_
        refine lv_tope (y := nI (tN (x))) h1 ?_
        refine lv_iload_n hx hb dX11_tells_53 rfl (lv_at hl 3 rfl) ?_
        refine cVie (As := [.int (nI (tN (x))), .int y]) S G 276 (c_X11_forceOf l (D := D) (ct := ct) (ek := ek) (ad := ad) (N0 := N0) (X := X) (F := F) σ (tN (x)) (by omega) y) ok_yX11_forceOf ml_RX11_150 (by decide) oM rfl hP hS hl.1 rfl (by decide) rfl rfl (Nat.le_of_ble_eq_true rfl) ⟨Nat.zero_le _, Nat.zero_le _⟩ dX11_tells_54 (fun H locs hP hS => ?_)
        refine lv_istore (lv' := [(4, .int (frR (σ 277) (tN (x)) y)), (3, .int (σ 277 (6 + 5 * (tN (x)) + 0))), (0, .ref (ad 276)), (1, .int x), (2, .int y)]) hx hb dX11_tells_57 hl (by decide) rfl (fun ls hl => ?_)
        refine lv_iload hx hb dX11_tells_59 (lv_at hl 0 rfl) ?_
        refine lv_if_ne (tgt := 72) hx hb dX11_tells_61 (by decide) (fun c_61 => ?_) (fun c_61 => ?_)
        · refine lv_iconst (v := 0) hx hb dX11_tells_72 (by decide) ?_
          refine lv_iload_n hx hb dX11_tells_73 rfl (lv_at hl 1 rfl) ?_
          refine rabs S rfl (by decide) hl.1 ml_RX11_86 (Nat.le_of_ble_eq_true rfl) ⟨Nat.zero_le _, Nat.zero_le _⟩ dX11_tells_74 ?_
          refine lv_iload hx hb dX11_tells_77 (lv_at hl 0 rfl) ?_
          refine lv_isub hx hb dX11_tells_79 ?_
          refine rmax S rfl (by decide) hl.1 ml_RX11_106 (Nat.le_of_ble_eq_true rfl) ⟨Nat.zero_le _, Nat.zero_le _⟩ dX11_tells_80 ?_
          refine lv_istore (lv' := [(5, .int (mxI 0 ((abI (σ 277 (6 + 5 * (tN (x)) + 0))) - (frR (σ 277) (tN (x)) y)))), (4, .int (frR (σ 277) (tN (x)) y)), (3, .int (σ 277 (6 + 5 * (tN (x)) + 0))), (0, .ref (ad 276)), (1, .int x), (2, .int y)]) hx hb dX11_tells_83 hl (by decide) rfl (fun ls hl => ?_)
          refine lv_aload_n hx hb dX11_tells_85 rfl (lv_at hl 3 rfl) ?_
          refine lv_iload_n hx hb dX11_tells_86 rfl (lv_at hl 4 rfl) ?_
          refine lv_tope (y := nI (tN (x))) h1 ?_
          refine lv_iconst (v := 0) hx hb dX11_tells_87 (by decide) ?_
          refine lv_iload_n hx hb dX11_tells_88 rfl (lv_at hl 2 rfl) ?_
          have jn_89_1 : ∀ (H : Heap) (locs : List Loc) (ls : Array Slot), wP D ct ek ad X σ H → va_S (fr N0) s.heap H locs → lv_has ls 6 [(5, .int (mxI 0 ((abI (σ 277 (6 + 5 * (tN (x)) + 0))) - (frR (σ 277) (tN (x)) y)))), (4, .int (frR (σ 277) (tN (x)) y)), (3, .int (σ 277 (6 + 5 * (tN (x)) + 0))), (0, .ref (ad 276)), (1, .int x), (2, .int y)] → W p l e (rmd 3 0 0) s m args below meth c H locs 0 0 (MQ below (wQi D ct ek ad N0 X (fun r τ => r = rtlB σ x y ∧ τ = rtlM σ x y)) args s 0 0 (fr N0)) (F0 m 100 ls [.int (telT (σ 277) (tN x) y), .int 0, .int (nI (tN (x))), .ref (ad 276)]) := by
            intro H locs ls hP hS hl
            refine cVve (As := [.int (nI (tN (x))), .int (nI 0), .int (telT (σ 277) (tN x) y)]) S G 276 (c_X11_sets l (D := D) (ct := ct) (ek := ek) (ad := ad) (N0 := N0) (X := X) (F := F) σ (tN (x)) (by omega) 0 (by omega) (telT (σ 277) (tN x) y)) ok_yX11_sets ml_RX11_109 (by decide) oM rfl hP hS hl.1 rfl (by decide) rfl rfl (Nat.le_of_ble_eq_true rfl) ⟨Nat.zero_le _, Nat.zero_le _⟩ dX11_tells_100 (fun H locs hP hS => ?_)
            rw [sg_row] at hP
            replace hP : wP D ct ek ad X (sb σ 277 (upd (σ 277) (6 + 5 * tN x + 0) (telT (σ 277) (tN x) y))) H := hP
            refine lv_aload_n hx hb dX11_tells_103 rfl (lv_at hl 3 rfl) ?_
            refine lv_iload_n hx hb dX11_tells_104 rfl (lv_at hl 4 rfl) ?_
            refine lv_tope (y := nI (tN (x))) h1 ?_
            refine lv_iconst (v := 3) hx hb dX11_tells_105 (by decide) ?_
            refine lv_aload_n hx hb dX11_tells_106 rfl (lv_at hl 3 rfl) ?_
            refine lv_iload_n hx hb dX11_tells_107 rfl (lv_at hl 4 rfl) ?_
            refine lv_tope (y := nI (tN (x))) h1 ?_
            refine lv_iconst (v := 3) hx hb dX11_tells_108 (by decide) ?_
            refine cVie (As := [.int (nI (tN (x))), .int (nI 3)]) S G 276 (c_X11_of l (D := D) (ct := ct) (ek := ek) (ad := ad) (N0 := N0) (X := X) (F := F) (sb σ 277 (upd (σ 277) (6 + 5 * tN x + 0) (telT (σ 277) (tN x) y))) (tN (x)) (by omega) 3 (by omega)) ok_yX11_of ml_RX11_83 (by decide) oM rfl hP hS hl.1 rfl (by decide) rfl rfl (Nat.le_of_ble_eq_true rfl) ⟨Nat.zero_le _, Nat.zero_le _⟩ dX11_tells_109 (fun H locs hP hS => ?_)
            refine lv_tope (y := σ 277 (6 + 5 * tN x + 3)) (by rw [sb_s, pk_un (by omega)]) ?_
            refine lv_iconst (v := 1) hx hb dX11_tells_112 (by decide) ?_
            refine lv_iadd hx hb dX11_tells_113 ?_
            refine cVve (As := [.int (nI (tN (x))), .int (nI 3), .int ((σ 277 (6 + 5 * tN x + 3)) + 1)]) S G 276 (c_X11_sets l (D := D) (ct := ct) (ek := ek) (ad := ad) (N0 := N0) (X := X) (F := F) (sb σ 277 (upd (σ 277) (6 + 5 * tN x + 0) (telT (σ 277) (tN x) y))) (tN (x)) (by omega) 3 (by omega) ((σ 277 (6 + 5 * tN x + 3)) + 1)) ok_yX11_sets ml_RX11_109 (by decide) oM rfl hP hS hl.1 rfl (by decide) rfl rfl (Nat.le_of_ble_eq_true rfl) ⟨Nat.zero_le _, Nat.zero_le _⟩ dX11_tells_114 (fun H locs hP hS => ?_)
            rw [sg_sb] at hP
            replace hP : wP D ct ek ad X (sb σ 277 (upd (upd (σ 277) (6 + 5 * tN x + 0) (telT (σ 277) (tN x) y)) (6 + 5 * tN x + 3) (σ 277 (6 + 5 * tN x + 3) + 1))) H := hP
            refine lv_aload_n hx hb dX11_tells_117 rfl (lv_at hl 3 rfl) ?_
            refine gf S G hP 276 0 (by decide) oM rfl inX11 (by decide) fl_RX11_9 rfl rfl dX11_tells_118 ?_
            refine lv_iconst (v := 3) hx hb dX11_tells_121 (by decide) ?_
            refine lv_dup2_11 hx hb dX11_tells_122 rfl rfl ?_
            refine ald S G hP 277 3 (by decide) (aM277 _) (by decide) (by omega) (by decide) dX11_tells_123 ?_
            refine lv_tope (y := σ 277 3) (by rw [sb_s, pk_un (by omega), pk_un (by omega)]) ?_
            refine lv_iconst (v := 1) hx hb dX11_tells_124 (by decide) ?_
            refine lv_iadd hx hb dX11_tells_125 ?_
            refine ast S G hP hS 277 3 (by decide) aM277 (by decide) (by omega) (by decide) dX11_tells_126 (fun H locs hP hS => ?_)
            rw [sg_sb] at hP
            replace hP : wP D ct ek ad X (sb σ 277 (telR (σ 277) (tN x) y)) H := hP
            refine lv_aload_n hx hb dX11_tells_127 rfl (lv_at hl 3 rfl) ?_
            refine lv_aload_n hx hb dX11_tells_128 rfl (lv_at hl 3 rfl) ?_
            refine lv_iload_n hx hb dX11_tells_129 rfl (lv_at hl 4 rfl) ?_
            refine lv_tope (y := nI (tN (x))) h1 ?_
            refine lv_iconst (v := 0) hx hb dX11_tells_130 (by decide) ?_
            refine cVie (As := [.int (nI (tN (x))), .int (nI 0)]) S G 276 (c_X11_of l (D := D) (ct := ct) (ek := ek) (ad := ad) (N0 := N0) (X := X) (F := F) (sb σ 277 (telR (σ 277) (tN x) y)) (tN (x)) (by omega) 0 (by omega)) ok_yX11_of ml_RX11_83 (by decide) oM rfl hP hS hl.1 rfl (by decide) rfl rfl (Nat.le_of_ble_eq_true rfl) ⟨Nat.zero_le _, Nat.zero_le _⟩ dX11_tells_131 (fun H locs hP hS => ?_)
            refine lv_tope (y := telT (σ 277) (tN x) y) (by rw [sb_s]; unfold telR; rw [pk_un (by omega), pk_un (by omega)]; exact pk_us) ?_
            refine cVie (As := [.int (telT (σ 277) (tN x) y)]) S G 276 (c_X11_does l (D := D) (ct := ct) (ek := ek) (ad := ad) (N0 := N0) (X := X) (F := F) (sb σ 277 (telR (σ 277) (tN x) y)) (telT (σ 277) (tN x) y)) ok_yX11_does ml_RX11_113 (by decide) oM rfl hP hS hl.1 rfl (by decide) rfl rfl (Nat.le_of_ble_eq_true rfl) ⟨Nat.zero_le _, Nat.zero_le _⟩ dX11_tells_134 (fun H locs hP hS => ?_)
            exact eZ S hr hlocks hP hS (by decide) dX11_tells_137 (by first | (refine ⟨?_, ?_⟩ <;> simp only [rtlB, rtlM, c_5, c_17, c_35, c_61, ↓reduceIte, if_true, if_false, eq_self]; done) | (refine ⟨?_, rfl⟩; simp only [rtlB, rtlM, c_5, c_17, c_35, c_61, ↓reduceIte, if_true, if_false, eq_self]; done) | exact ⟨rfl, rfl⟩ | (refine ⟨?_, rfl⟩; simp [rtlB, rtlM, c_5, c_17, c_35, c_61]; done) | (simp [rtlB, rtlM, c_5, c_17, c_35, c_61]; done) | grind [rtlB, rtlM])
          refine lv_if_ge (tgt := 98) hx hb dX11_tells_89 (by decide) (fun c_89 => ?_) (fun c_89 => ?_)
          · refine lv_iload hx hb dX11_tells_98 (lv_at hl 0 rfl) ?_
            refine lv_tope (y := telT (σ 277) (tN x) y) (by first | exact (if_pos c_89).symm | exact (if_neg c_89).symm) ?_
            exact jn_89_1 _ _ _ hP hS (lv_sub hl [0, 1, 2, 3, 4, 5] rfl)
          · refine lv_iload hx hb dX11_tells_92 (lv_at hl 0 rfl) ?_
            refine lv_ineg hx hb dX11_tells_94 ?_
            refine lv_goto (tgt := 100) hx hb dX11_tells_95 (by decide) ?_
            refine lv_tope (y := telT (σ 277) (tN x) y) (by first | exact (if_pos c_89).symm | exact (if_neg c_89).symm) ?_
            exact jn_89_1 _ _ _ hP hS (lv_sub hl [0, 1, 2, 3, 4, 5] rfl)
        · refine lv_aload_n hx hb dX11_tells_64 rfl (lv_at hl 2 rfl) ?_
          refine lv_bipush (v := 7) hx hb dX11_tells_65 (by decide) ?_
          refine lv_iload_n hx hb dX11_tells_67 rfl (lv_at hl 4 rfl) ?_
          refine cVie (As := [.int 7, .int y]) S G 276 (c_X11_refuses l (D := D) (ct := ct) (ek := ek) (ad := ad) (N0 := N0) (X := X) (F := F) σ 7 y) ok_yX11_refuses ml_RX11_75 (by decide) oM rfl hP hS hl.1 rfl (by decide) rfl rfl (Nat.le_of_ble_eq_true rfl) ⟨Nat.zero_le _, Nat.zero_le _⟩ dX11_tells_68 (fun H locs hP hS => ?_)
          exact eZ S hr hlocks hP hS (by decide) dX11_tells_71 (by first | (refine ⟨?_, ?_⟩ <;> simp only [rtlB, rtlM, c_5, c_17, c_35, c_61, ↓reduceIte, if_true, if_false, eq_self]; done) | (refine ⟨?_, rfl⟩; simp only [rtlB, rtlM, c_5, c_17, c_35, c_61, ↓reduceIte, if_true, if_false, eq_self]; done) | exact ⟨rfl, rfl⟩ | (refine ⟨?_, rfl⟩; simp [rtlB, rtlM, c_5, c_17, c_35, c_61]; done) | (simp [rtlB, rtlM, c_5, c_17, c_35, c_61]; done) | grind [rtlB, rtlM])
      · refine lv_aload_n hx hb dX11_tells_38 rfl (lv_at hl 1 rfl) ?_
        refine lv_bipush (v := 6) hx hb dX11_tells_39 (by decide) ?_
        refine lv_aload_n hx hb dX11_tells_41 rfl (lv_at hl 1 rfl) ?_
        refine lv_iload_n hx hb dX11_tells_42 rfl (lv_at hl 2 rfl) ?_
        refine lv_tope (y := nI (tN (x))) h1 ?_
        refine lv_iconst (v := 1) hx hb dX11_tells_43 (by decide) ?_
        refine cVie (As := [.int (nI (tN (x))), .int (nI 1)]) S G 276 (c_X11_of l (D := D) (ct := ct) (ek := ek) (ad := ad) (N0 := N0) (X := X) (F := F) σ (tN (x)) (by omega) 1 (by omega)) ok_yX11_of ml_RX11_83 (by decide) oM rfl hP hS hl.1 rfl (by decide) rfl rfl (Nat.le_of_ble_eq_true rfl) ⟨Nat.zero_le _, Nat.zero_le _⟩ dX11_tells_44 (fun H locs hP hS => ?_)
        refine cVie (As := [.int 6, .int (σ 277 (6 + 5 * (tN (x)) + 1))]) S G 276 (c_X11_refuses l (D := D) (ct := ct) (ek := ek) (ad := ad) (N0 := N0) (X := X) (F := F) σ 6 (σ 277 (6 + 5 * (tN (x)) + 1))) ok_yX11_refuses ml_RX11_75 (by decide) oM rfl hP hS hl.1 rfl (by decide) rfl rfl (Nat.le_of_ble_eq_true rfl) ⟨Nat.zero_le _, Nat.zero_le _⟩ dX11_tells_47 (fun H locs hP hS => ?_)
        exact eZ S hr hlocks hP hS (by decide) dX11_tells_50 (by first | (refine ⟨?_, ?_⟩ <;> simp only [rtlB, rtlM, c_5, c_17, c_35, ↓reduceIte, if_true, if_false, eq_self]; done) | (refine ⟨?_, rfl⟩; simp only [rtlB, rtlM, c_5, c_17, c_35, ↓reduceIte, if_true, if_false, eq_self]; done) | exact ⟨rfl, rfl⟩ | (refine ⟨?_, rfl⟩; simp [rtlB, rtlM, c_5, c_17, c_35]; done) | (simp [rtlB, rtlM, c_5, c_17, c_35]; done) | grind [rtlB, rtlM])
    · refine lv_aload_n hx hb dX11_tells_20 rfl (lv_at hl 0 rfl) ?_
      refine lv_iconst (v := 1) hx hb dX11_tells_21 (by decide) ?_
      refine lv_iconst (v := 0) hx hb dX11_tells_22 (by decide) ?_
      refine cVie (As := [.int 1, .int 0]) S G 276 (c_X11_refuses l (D := D) (ct := ct) (ek := ek) (ad := ad) (N0 := N0) (X := X) (F := F) σ 1 0) ok_yX11_refuses ml_RX11_75 (by decide) oM rfl hP hS hl.1 rfl (by decide) rfl rfl (Nat.le_of_ble_eq_true rfl) ⟨Nat.zero_le _, Nat.zero_le _⟩ dX11_tells_23 (fun H locs hP hS => ?_)
      exact eZ S hr hlocks hP hS (by decide) dX11_tells_26 (by first | (refine ⟨?_, ?_⟩ <;> simp only [rtlB, rtlM, c_5, c_17, ↓reduceIte, if_true, if_false, eq_self]; done) | (refine ⟨?_, rfl⟩; simp only [rtlB, rtlM, c_5, c_17, ↓reduceIte, if_true, if_false, eq_self]; done) | exact ⟨rfl, rfl⟩ | (refine ⟨?_, rfl⟩; simp [rtlB, rtlM, c_5, c_17]; done) | (simp [rtlB, rtlM, c_5, c_17]; done) | grind [rtlB, rtlM])
  · refine lv_iconst (v := 0) hx hb dX11_tells_8 (by decide) ?_
    exact eZ S hr hlocks hP hS (by decide) dX11_tells_9 (by first | (refine ⟨?_, ?_⟩ <;> simp only [rtlB, rtlM, c_5, ↓reduceIte, if_true, if_false, eq_self]; done) | (refine ⟨?_, rfl⟩; simp only [rtlB, rtlM, c_5, ↓reduceIte, if_true, if_false, eq_self]; done) | exact ⟨rfl, rfl⟩ | (refine ⟨?_, rfl⟩; simp [rtlB, rtlM, c_5]; done) | (simp [rtlB, rtlM, c_5]; done) | grind [rtlB, rtlM])

theorem ok_yX11_fact : COK RX11 yX11_fact cX11_fact 3 (some .int) 2 := ⟨im_yX11_fact, se_RX11_yX11_fact, in_RX11, co_yX11_fact, ⟨rfl, by decide +kernel, by decide +kernel, by decide +kernel⟩, by decide⟩
set_option maxHeartbeats 1000000 in
set_option maxRecDepth 100000 in
theorem c_X11_fact (l : Launch) {D : va_G} {ct : Nat → ClassId} {ek ad : Nat → Nat} {N0 : Nat} {X : va_W} {F : State → Prop} (σ : Mem) (x : Int32) (y : Int32) (n : Nat) (hn : σ 277 0 = nI n) (hn6 : n ≤ 6) (u : Nat) (hu : σ 276 4 = nI u) (hu8 : u ≤ 8) : MI l yX11_fact cX11_fact 3 (some .int) 4 D ct ek ad N0 X F [.ref (ad 276), .int x, .int y] σ (fun r τ => r = endV (rtlB (triM σ) x y) (rtlM (triM σ) x y) ∧ τ = endM (rtlB (triM σ) x y) (rtlM (triM σ) x y) u) := by
  refine ms0 (own := RX11) (by decide) rfl (Nat.le_of_ble_eq_true rfl) (fun p e s m args below meth c S hr hlocks hnm G hP hS ls hl => ?_)
  have hx := S.1
  have hb := S.2.1
  replace hl : lv_has ls 3 [(0, .ref (ad 276)), (1, .int x), (2, .int y)] := hl
  refine lv_aload_n hx hb dX11_fact_0 rfl (lv_at hl 0 rfl) ?_
  refine cVve (As := []) S G 276 (c_X11_tries l (D := D) (ct := ct) (ek := ek) (ad := ad) (N0 := N0) (X := X) (F := F) σ) ok_yX11_tries ml_RX11_116 (by decide) oM rfl hP hS hl.1 rfl (by decide) rfl rfl (Nat.le_of_ble_eq_true rfl) ⟨Nat.zero_le _, Nat.zero_le _⟩ dX11_fact_1 (fun H locs hP hS => ?_)
  refine lv_aload_n hx hb dX11_fact_4 rfl (lv_at hl 0 rfl) ?_
  refine lv_aload_n hx hb dX11_fact_5 rfl (lv_at hl 0 rfl) ?_
  refine lv_iload_n hx hb dX11_fact_6 rfl (lv_at hl 1 rfl) ?_
  refine lv_iload_n hx hb dX11_fact_7 rfl (lv_at hl 2 rfl) ?_
  refine cVie (As := [.int x, .int y]) S G 276 (c_X11_tells l (D := D) (ct := ct) (ek := ek) (ad := ad) (N0 := N0) (X := X) (F := F) (triM σ) x y n (by rw [triM_c (by decide) (by decide)]; exact hn) (by omega)) ok_yX11_tells ml_RX11_153 (by decide) oM rfl hP hS hl.1 rfl (by decide) rfl rfl (Nat.le_of_ble_eq_true rfl) ⟨Nat.zero_le _, Nat.zero_le _⟩ dX11_fact_8 (fun H locs hP hS => ?_)
  refine cVie (As := [.int (rtlB (triM σ) x y)]) S G 276 (c_X11_ends l (D := D) (ct := ct) (ek := ek) (ad := ad) (N0 := N0) (X := X) (F := F) (rtlM (triM σ) x y) (rtlB (triM σ) x y) u (by rw [rtlM_k (by decide), triM_276 (by decide)]; exact hu) (by omega)) ok_yX11_ends ml_RX11_122 (by decide) oM rfl hP hS hl.1 rfl (by decide) rfl rfl (Nat.le_of_ble_eq_true rfl) ⟨Nat.zero_le _, Nat.zero_le _⟩ dX11_fact_11 (fun H locs hP hS => ?_)
  exact eI S hr hlocks hP hS dX11_fact_14 (by first | exact ⟨rfl, rfl⟩ | (refine ⟨?_, rfl⟩; simp []; done) | (simp []; done) | (simp only [↓reduceIte, if_true, if_false, and_self, true_and]; done) | grind [])

theorem ok_yX11_puts : COK RX11 yX11_puts cX11_puts 7 (some .boolean) 3 := ⟨im_yX11_puts, se_RX11_yX11_puts, in_RX11, co_yX11_puts, ⟨rfl, by decide +kernel, by decide +kernel, by decide +kernel⟩, by decide⟩
set_option maxHeartbeats 1000000 in
set_option maxRecDepth 100000 in
theorem c_X11_puts (l : Launch) {D : va_G} {ct : Nat → ClassId} {ek ad : Nat → Nat} {N0 : Nat} {X : va_W} {F : State → Prop} (σ : Mem) (x : Int32) (y : Int32) (z : Int32) (n : Nat) (hn : σ 277 0 = nI n) (hn6 : n ≤ 6) (mb : Nat) (hm : σ 277 1 = nI mb) (hm6 : mb ≤ 6) : MI l yX11_puts cX11_puts 7 (some .boolean) 3 D ct ek ad N0 X F [.ref (ad 276), .int x, .int y, .int z] σ (fun r τ => r = ptB σ mb x y z ∧ τ = ptM σ mb x y z) := by
  refine ms0 (own := RX11) (by decide) rfl (Nat.le_of_ble_eq_true rfl) (fun p e s m args below meth c S hr hlocks hnm G hP hS ls hl => ?_)
  have hx := S.1
  have hb := S.2.1
  replace hl : lv_has ls 7 [(0, .ref (ad 276)), (1, .int x), (2, .int y), (3, .int z)] := hl
  refine lv_aload_n hx hb dX11_puts_0 rfl (lv_at hl 0 rfl) ?_
  refine lv_iload_n hx hb dX11_puts_1 rfl (lv_at hl 1 rfl) ?_
  refine cVie (As := [.int x]) S G 276 (c_X11_isThere l (D := D) (ct := ct) (ek := ek) (ad := ad) (N0 := N0) (X := X) (F := F) σ x) ok_yX11_isThere ml_RX11_126 (by decide) oM rfl hP hS hl.1 rfl (by decide) rfl rfl (Nat.le_of_ble_eq_true rfl) ⟨Nat.zero_le _, Nat.zero_le _⟩ dX11_puts_2 (fun H locs hP hS => ?_)
  refine lv_if_eq (tgt := 16) hx hb dX11_puts_5 (by decide) (fun c_5 => ?_) (fun c_5 => ?_)
  · refine lv_iconst (v := 0) hx hb dX11_puts_16 (by decide) ?_
    exact eZ S hr hlocks hP hS (by decide) dX11_puts_17 (by first | (refine ⟨?_, ?_⟩ <;> simp only [ptB, ptM, c_5, ↓reduceIte, if_true, if_false, eq_self]; done) | (refine ⟨?_, rfl⟩; simp only [ptB, ptM, c_5, ↓reduceIte, if_true, if_false, eq_self]; done) | exact ⟨rfl, rfl⟩ | (refine ⟨?_, rfl⟩; simp [ptB, ptM, c_5]; done) | (simp [ptB, ptM, c_5]; done) | grind [ptB, ptM])
  · rw [tcM_1 c_5] at hP
    refine lv_aload_n hx hb dX11_puts_8 rfl (lv_at hl 0 rfl) ?_
    refine lv_iload_n hx hb dX11_puts_9 rfl (lv_at hl 2 rfl) ?_
    refine cVie (As := [.int y]) S G 276 (c_X11_isThere l (D := D) (ct := ct) (ek := ek) (ad := ad) (N0 := N0) (X := X) (F := F) σ y) ok_yX11_isThere ml_RX11_126 (by decide) oM rfl hP hS hl.1 rfl (by decide) rfl rfl (Nat.le_of_ble_eq_true rfl) ⟨Nat.zero_le _, Nat.zero_le _⟩ dX11_puts_10 (fun H locs hP hS => ?_)
    refine lv_if_ne (tgt := 18) hx hb dX11_puts_13 (by decide) (fun c_13 => ?_) (fun c_13 => ?_)
    · rw [tcM_1 c_13] at hP
      refine lv_iload_n hx hb dX11_puts_18 rfl (lv_at hl 1 rfl) ?_
      refine lv_iload_n hx hb dX11_puts_19 rfl (lv_at hl 2 rfl) ?_
      refine lv_icmp_ne (tgt := 30) hx hb dX11_puts_20 (by decide) (fun c_20 => ?_) (fun c_20 => ?_)
      · refine lv_iload_n hx hb dX11_puts_30 rfl (lv_at hl 3 rfl) ?_
        refine lv_iconst (v := 0) hx hb dX11_puts_31 (by decide) ?_
        refine lv_bipush (v := 40) hx hb dX11_puts_32 (by decide) ?_
        refine cSie (As := [.int z, .int 0, .int 40]) S G (c_X11_in l (D := D) (ct := ct) (ek := ek) (ad := ad) (N0 := N0) (X := X) (F := F) σ z 0 40) ok_yX11_in ml_RX11_67 hP hS hl.1 rfl (by decide) rfl rfl (Nat.le_of_ble_eq_true rfl) ⟨Nat.zero_le _, Nat.zero_le _⟩ dX11_puts_34 (fun H locs hP hS => ?_)
        refine lv_if_ne (tgt := 47) hx hb dX11_puts_37 (by decide) (fun c_37 => ?_) (fun c_37 => ?_)
        · refine lv_iload_n hx hb dX11_puts_47 rfl (lv_at hl 1 rfl) ?_
          refine lv_iload_n hx hb dX11_puts_48 rfl (lv_at hl 2 rfl) ?_
          refine rmin S rfl (by decide) hl.1 ml_RX11_103 (Nat.le_of_ble_eq_true rfl) ⟨Nat.zero_le _, Nat.zero_le _⟩ dX11_puts_49 ?_
          refine lv_istore (lv' := [(4, .int (mnI x y)), (0, .ref (ad 276)), (1, .int x), (2, .int y), (3, .int z)]) hx hb dX11_puts_52 hl (by decide) rfl (fun ls hl => ?_)
          refine lv_iload_n hx hb dX11_puts_54 rfl (lv_at hl 2 rfl) ?_
          refine lv_iload_n hx hb dX11_puts_55 rfl (lv_at hl 3 rfl) ?_
          refine rmax S rfl (by decide) hl.1 ml_RX11_106 (Nat.le_of_ble_eq_true rfl) ⟨Nat.zero_le _, Nat.zero_le _⟩ dX11_puts_56 ?_
          refine lv_istore (lv' := [(5, .int (mxI x y)), (4, .int (mnI x y)), (0, .ref (ad 276)), (1, .int x), (2, .int y), (3, .int z)]) hx hb dX11_puts_59 hl (by decide) rfl (fun ls hl => ?_)
          refine lv_iconst (v := 0) hx hb dX11_puts_61 (by decide) ?_
          refine lv_istore (lv' := [(6, .int 0), (5, .int (mxI x y)), (4, .int (mnI x y)), (0, .ref (ad 276)), (1, .int x), (2, .int y), (3, .int z)]) hx hb dX11_puts_62 hl (by decide) rfl (fun ls hl => ?_)
          have key_64 : ∀ (d k : Nat), k + d = mb → (srch (fbR (σ 277) (mnI x y) (mxI x y)) 1 mb 0 = srch (fbR (σ 277) (mnI x y) (mxI x y)) 1 d k) → ∀ (H : Heap) (locs : List Loc) (ls : Array Slot), wP D ct ek ad X σ H → va_S (fr N0) s.heap H locs → lv_has ls 7 [(6, .int (nI k)), (5, .int (mxI x y)), (4, .int (mnI x y)), (0, .ref (ad 276)), (1, .int x), (2, .int y), (3, .int z)] → W p l e (rmd 3 0 0) s m args below meth c H locs 0 0 (MQ below (wQi D ct ek ad N0 X (fun r τ => r = ptB σ mb x y z ∧ τ = ptM σ mb x y z)) args s 0 0 (fr N0)) (F0 m 64 ls []) := by
            intro d
            induction d with
            | zero =>
              intro k9 hk
              obtain rfl : mb = k9 := by omega
              intro hs H locs ls hP hS hl
              refine lv_iload hx hb dX11_puts_64 (lv_at hl 0 rfl) ?_
              refine lv_aload_n hx hb dX11_puts_66 rfl (lv_at hl 3 rfl) ?_
              refine gf S G hP 276 0 (by decide) oM rfl inX11 (by decide) fl_RX11_9 rfl rfl dX11_puts_67 ?_
              refine lv_iconst (v := 1) hx hb dX11_puts_70 (by decide) ?_
              refine ald S G hP 277 1 (by decide) (aM277 _) (by decide) (by omega) (by decide) dX11_puts_71 ?_
              refine lv_icmp_ge (tgt := 114) hx hb dX11_puts_72 (by decide) (fun c_72 => ?_) (fun c_72 => absurd (by rw [hm]; exact nI_le (by omega) (by omega)) c_72)
              have hf : ¬ 0 ≤ fnR (σ 277) mb x y := by unfold fnR; rw [hs]; show ¬ (0 : Int32) ≤ -1; decide
              refine lv_aload_n hx hb dX11_puts_114 rfl (lv_at hl 3 rfl) ?_
              refine gf S G hP 276 0 (by decide) oM rfl inX11 (by decide) fl_RX11_9 rfl rfl dX11_puts_115 ?_
              refine lv_iconst (v := 1) hx hb dX11_puts_118 (by decide) ?_
              refine ald S G hP 277 1 (by decide) (aM277 _) (by decide) (by omega) (by decide) dX11_puts_119 ?_
              refine lv_bipush (v := 6) hx hb dX11_puts_120 (by decide) ?_
              refine lv_icmp_ne (tgt := 133) hx hb dX11_puts_122 (by decide) (fun c_122 => ?_) (fun c_122 => ?_)
              · have h6 : ¬ mb = 6 := fun h => c_122 (by rw [hm, h]; rfl)
                have hlt : mb < 6 := by omega
                refine lv_bipush (v := 72) hx hb dX11_puts_133 (by decide) ?_
                refine lv_iconst (v := 4) hx hb dX11_puts_135 (by decide) ?_
                refine lv_aload_n hx hb dX11_puts_136 rfl (lv_at hl 3 rfl) ?_
                refine gf S G hP 276 0 (by decide) oM rfl inX11 (by decide) fl_RX11_9 rfl rfl dX11_puts_137 ?_
                refine lv_iconst (v := 1) hx hb dX11_puts_140 (by decide) ?_
                refine lv_dup2_11 hx hb dX11_puts_141 rfl rfl ?_
                refine ald S G hP 277 1 (by decide) (aM277 _) (by decide) (by omega) (by decide) dX11_puts_142 ?_
                refine lv_tope (y := nI mb) hm ?_
                refine lv_dup_x2 hx hb dX11_puts_143 rfl rfl rfl ?_
                refine lv_iconst (v := 1) hx hb dX11_puts_144 (by decide) ?_
                refine nadd hx hb mb 1 dX11_puts_145 rfl (by decide) ?_
                refine ast S G hP hS 277 1 (by decide) aM277 (by decide) (by omega) (by decide) dX11_puts_146 (fun H locs hP hS => ?_)
                rw [sg_row] at hP
                replace hP : wP D ct ek ad X (sb σ 277 (upd (σ 277) 1 (nI (mb + 1)))) H := hP
                refine nmul hx hb 4 mb dX11_puts_147 (by decide) rfl ?_
                refine nadd hx hb 72 (4 * mb) dX11_puts_148 (by decide) rfl ?_
                refine lv_istore (lv' := [(6, .int (nI (72 + (4 * mb)))), (5, .int (mxI x y)), (4, .int (mnI x y)), (0, .ref (ad 276)), (1, .int x), (2, .int y), (3, .int z)]) hx hb dX11_puts_149 hl (by decide) rfl (fun ls hl => ?_)
                refine lv_aload_n hx hb dX11_puts_151 rfl (lv_at hl 3 rfl) ?_
                refine gf S G hP 276 0 (by decide) oM rfl inX11 (by decide) fl_RX11_9 rfl rfl dX11_puts_152 ?_
                refine lv_iload hx hb dX11_puts_155 (lv_at hl 0 rfl) ?_
                refine lv_iload hx hb dX11_puts_157 (lv_at hl 2 rfl) ?_
                refine ast S G hP hS 277 (72 + (4 * mb)) (by decide) aM277 rfl (by omega) (by decide) dX11_puts_159 (fun H locs hP hS => ?_)
                rw [sg_sb] at hP
                replace hP : wP D ct ek ad X (sb σ 277 (upd (upd (σ 277) 1 (nI (mb + 1))) (72 + 4 * mb) (mnI x y))) H := hP
                refine lv_aload_n hx hb dX11_puts_160 rfl (lv_at hl 3 rfl) ?_
                refine gf S G hP 276 0 (by decide) oM rfl inX11 (by decide) fl_RX11_9 rfl rfl dX11_puts_161 ?_
                refine lv_iload hx hb dX11_puts_164 (lv_at hl 0 rfl) ?_
                refine lv_iconst (v := 1) hx hb dX11_puts_166 (by decide) ?_
                refine nadd hx hb (72 + (4 * mb)) 1 dX11_puts_167 rfl (by decide) ?_
                refine lv_iload hx hb dX11_puts_168 (lv_at hl 1 rfl) ?_
                refine ast S G hP hS 277 ((72 + (4 * mb)) + 1) (by decide) aM277 rfl (by omega) (by decide) dX11_puts_170 (fun H locs hP hS => ?_)
                rw [sg_sb] at hP
                replace hP : wP D ct ek ad X (sb σ 277 (upd (upd (upd (σ 277) 1 (nI (mb + 1))) (72 + 4 * mb) (mnI x y)) (72 + 4 * mb + 1) (mxI x y))) H := hP
                refine lv_aload_n hx hb dX11_puts_171 rfl (lv_at hl 3 rfl) ?_
                refine gf S G hP 276 0 (by decide) oM rfl inX11 (by decide) fl_RX11_9 rfl rfl dX11_puts_172 ?_
                refine lv_iload hx hb dX11_puts_175 (lv_at hl 0 rfl) ?_
                refine lv_iconst (v := 2) hx hb dX11_puts_177 (by decide) ?_
                refine nadd hx hb (72 + (4 * mb)) 2 dX11_puts_178 rfl (by decide) ?_
                refine lv_iload_n hx hb dX11_puts_179 rfl (lv_at hl 6 rfl) ?_
                refine ast S G hP hS 277 ((72 + (4 * mb)) + 2) (by decide) aM277 rfl (by omega) (by decide) dX11_puts_180 (fun H locs hP hS => ?_)
                rw [sg_sb] at hP
                replace hP : wP D ct ek ad X (sb σ 277 (upd (upd (upd (upd (σ 277) 1 (nI (mb + 1))) (72 + 4 * mb) (mnI x y)) (72 + 4 * mb + 1) (mxI x y)) (72 + 4 * mb + 2) z)) H := hP
                refine lv_aload_n hx hb dX11_puts_181 rfl (lv_at hl 3 rfl) ?_
                refine gf S G hP 276 0 (by decide) oM rfl inX11 (by decide) fl_RX11_9 rfl rfl dX11_puts_182 ?_
                refine lv_iload hx hb dX11_puts_185 (lv_at hl 0 rfl) ?_
                refine lv_iconst (v := 3) hx hb dX11_puts_187 (by decide) ?_
                refine nadd hx hb (72 + (4 * mb)) 3 dX11_puts_188 rfl (by decide) ?_
                refine lv_iconst (v := 0) hx hb dX11_puts_189 (by decide) ?_
                refine ast S G hP hS 277 ((72 + (4 * mb)) + 3) (by decide) aM277 rfl (by omega) (by decide) dX11_puts_190 (fun H locs hP hS => ?_)
                rw [sg_sb] at hP
                replace hP : wP D ct ek ad X (sb σ 277 (ptR (σ 277) mb x y z)) H := hP
                refine lv_aload_n hx hb dX11_puts_191 rfl (lv_at hl 3 rfl) ?_
                refine lv_aload_n hx hb dX11_puts_192 rfl (lv_at hl 3 rfl) ?_
                refine gf S G hP 276 0 (by decide) oM rfl inX11 (by decide) fl_RX11_9 rfl rfl dX11_puts_193 ?_
                refine lv_iconst (v := 1) hx hb dX11_puts_196 (by decide) ?_
                refine ald S G hP 277 1 (by decide) (aM277 _) (by decide) (by omega) (by decide) dX11_puts_197 ?_
                refine lv_tope (y := nI (mb + 1)) (by rw [sb_s]; unfold ptR; rw [pk_un (by omega), pk_un (by omega), pk_un (by omega), pk_un (by omega)]; exact pk_us) ?_
                refine lv_iconst (v := 1) hx hb dX11_puts_198 (by decide) ?_
                refine lv_isub hx hb dX11_puts_199 ?_
                refine lv_tope (y := nI mb) (nI_pred mb) ?_
                refine cVie (As := [.int (nI mb)]) S G 276 (c_X11_does l (D := D) (ct := ct) (ek := ek) (ad := ad) (N0 := N0) (X := X) (F := F) (sb σ 277 (ptR (σ 277) mb x y z)) (nI mb)) ok_yX11_does ml_RX11_113 (by decide) oM rfl hP hS hl.1 rfl (by decide) rfl rfl (Nat.le_of_ble_eq_true rfl) ⟨Nat.zero_le _, Nat.zero_le _⟩ dX11_puts_200 (fun H locs hP hS => ?_)
                exact eZ S hr hlocks hP hS (by decide) dX11_puts_203 (by first | (refine ⟨?_, ?_⟩ <;> simp only [ptB, ptM, c_5, c_13, c_20, c_37, c_72, hf, c_122, h6, ↓reduceIte, if_true, if_false, eq_self]; done) | (refine ⟨?_, rfl⟩; simp only [ptB, ptM, c_5, c_13, c_20, c_37, c_72, hf, c_122, h6, ↓reduceIte, if_true, if_false, eq_self]; done) | exact ⟨rfl, rfl⟩ | (refine ⟨?_, rfl⟩; simp [ptB, ptM, c_5, c_13, c_20, c_37, c_72, hf, c_122, h6]; done) | (simp [ptB, ptM, c_5, c_13, c_20, c_37, c_72, hf, c_122, h6]; done) | grind [ptB, ptM])
              · have h6 : mb = 6 := by rw [hm] at c_122; exact (nI_eq (b := 6) (by omega) (by decide)).mp c_122
                refine lv_aload_n hx hb dX11_puts_125 rfl (lv_at hl 3 rfl) ?_
                refine lv_iconst (v := 2) hx hb dX11_puts_126 (by decide) ?_
                refine lv_bipush (v := 6) hx hb dX11_puts_127 (by decide) ?_
                refine cVie (As := [.int 2, .int 6]) S G 276 (c_X11_refuses l (D := D) (ct := ct) (ek := ek) (ad := ad) (N0 := N0) (X := X) (F := F) σ 2 6) ok_yX11_refuses ml_RX11_75 (by decide) oM rfl hP hS hl.1 rfl (by decide) rfl rfl (Nat.le_of_ble_eq_true rfl) ⟨Nat.zero_le _, Nat.zero_le _⟩ dX11_puts_129 (fun H locs hP hS => ?_)
                exact eZ S hr hlocks hP hS (by decide) dX11_puts_132 (by first | (refine ⟨?_, ?_⟩ <;> simp only [ptB, ptM, c_5, c_13, c_20, c_37, c_72, hf, c_122, h6, ↓reduceIte, if_true, if_false, eq_self]; done) | (refine ⟨?_, rfl⟩; simp only [ptB, ptM, c_5, c_13, c_20, c_37, c_72, hf, c_122, h6, ↓reduceIte, if_true, if_false, eq_self]; done) | exact ⟨rfl, rfl⟩ | (refine ⟨?_, rfl⟩; simp [ptB, ptM, c_5, c_13, c_20, c_37, c_72, hf, c_122, h6]; done) | (simp [ptB, ptM, c_5, c_13, c_20, c_37, c_72, hf, c_122, h6]; done) | grind [ptB, ptM])
            | succ d ih =>
              intro k hk hs H locs ls hP hS hl
              have hkn : k < mb := by omega
              refine lv_iload hx hb dX11_puts_64 (lv_at hl 0 rfl) ?_
              refine lv_aload_n hx hb dX11_puts_66 rfl (lv_at hl 3 rfl) ?_
              refine gf S G hP 276 0 (by decide) oM rfl inX11 (by decide) fl_RX11_9 rfl rfl dX11_puts_67 ?_
              refine lv_iconst (v := 1) hx hb dX11_puts_70 (by decide) ?_
              refine ald S G hP 277 1 (by decide) (aM277 _) (by decide) (by omega) (by decide) dX11_puts_71 ?_
              refine lv_icmp_ge (tgt := 114) hx hb dX11_puts_72 (by decide) (fun c_72 => absurd c_72 (by rw [hm]; exact nI_ge (by omega) (by omega))) (fun c_72 => ?_)
              refine lv_aload_n hx hb dX11_puts_75 rfl (lv_at hl 3 rfl) ?_
              refine lv_iload hx hb dX11_puts_76 (lv_at hl 0 rfl) ?_
              refine lv_iconst (v := 0) hx hb dX11_puts_78 (by decide) ?_
              refine cVie (As := [.int (nI k), .int (nI 0)]) S G 276 (c_X11_beam l (D := D) (ct := ct) (ek := ek) (ad := ad) (N0 := N0) (X := X) (F := F) σ k (by omega) 0 (by omega)) ok_yX11_beam ml_RX11_79 (by decide) oM rfl hP hS hl.1 rfl (by decide) rfl rfl (Nat.le_of_ble_eq_true rfl) ⟨Nat.zero_le _, Nat.zero_le _⟩ dX11_puts_79 (fun H locs hP hS => ?_)
              refine lv_iload hx hb dX11_puts_82 (lv_at hl 2 rfl) ?_
              refine lv_icmp_ne (tgt := 108) hx hb dX11_puts_84 (by decide) (fun c_84 => ?_) (fun c_84 => ?_)
              · refine lv_iinc (v := nI (k + 1)) (lv' := [(6, .int (nI (k + 1))), (5, .int (mxI x y)), (4, .int (mnI x y)), (0, .ref (ad 276)), (1, .int x), (2, .int y), (3, .int z)]) hx hb dX11_puts_108 hl (k := 0) rfl (nI_inc _) (by decide) rfl (fun ls hl => ?_)
                refine lv_goto (tgt := 64) hx hb dX11_puts_111 (by decide) ?_
                exact ih (k + 1) (by omega) (by rw [hs]; exact if_neg (show ¬ fbR (σ 277) (mnI x y) (mxI x y) k = 1 from by unfold fbR; simp only [c_84, ↓reduceIte]; decide)) _ _ _ hP hS (by first | (refine lv_v (lv_sub (l' := [(6, .int (nI (k + 1))), (5, .int (mxI x y)), (4, .int (mnI x y)), (0, .ref (ad 276)), (1, .int x), (2, .int y), (3, .int z)]) hl [0, 1, 2, 3, 4, 5, 6] rfl) ?_; simp [fo, ptB, ptM, c_5, c_13, c_20, c_37, c_72, c_84]; done) | exact lv_sub hl [0, 1, 2, 3, 4, 5, 6] rfl)
              · refine lv_aload_n hx hb dX11_puts_87 rfl (lv_at hl 3 rfl) ?_
                refine lv_iload hx hb dX11_puts_88 (lv_at hl 0 rfl) ?_
                refine lv_iconst (v := 1) hx hb dX11_puts_90 (by decide) ?_
                refine cVie (As := [.int (nI k), .int (nI 1)]) S G 276 (c_X11_beam l (D := D) (ct := ct) (ek := ek) (ad := ad) (N0 := N0) (X := X) (F := F) σ k (by omega) 1 (by omega)) ok_yX11_beam ml_RX11_79 (by decide) oM rfl hP hS hl.1 rfl (by decide) rfl rfl (Nat.le_of_ble_eq_true rfl) ⟨Nat.zero_le _, Nat.zero_le _⟩ dX11_puts_91 (fun H locs hP hS => ?_)
                refine lv_iload hx hb dX11_puts_94 (lv_at hl 1 rfl) ?_
                refine lv_icmp_ne (tgt := 108) hx hb dX11_puts_96 (by decide) (fun c_96 => ?_) (fun c_96 => ?_)
                · refine lv_iinc (v := nI (k + 1)) (lv' := [(6, .int (nI (k + 1))), (5, .int (mxI x y)), (4, .int (mnI x y)), (0, .ref (ad 276)), (1, .int x), (2, .int y), (3, .int z)]) hx hb dX11_puts_108 hl (k := 0) rfl (nI_inc _) (by decide) rfl (fun ls hl => ?_)
                  refine lv_goto (tgt := 64) hx hb dX11_puts_111 (by decide) ?_
                  exact ih (k + 1) (by omega) (by rw [hs]; exact if_neg (show ¬ fbR (σ 277) (mnI x y) (mxI x y) k = 1 from by unfold fbR; simp only [c_84, c_96, ↓reduceIte]; decide)) _ _ _ hP hS (by first | (refine lv_v (lv_sub (l' := [(6, .int (nI (k + 1))), (5, .int (mxI x y)), (4, .int (mnI x y)), (0, .ref (ad 276)), (1, .int x), (2, .int y), (3, .int z)]) hl [0, 1, 2, 3, 4, 5, 6] rfl) ?_; simp [fo, ptB, ptM, c_5, c_13, c_20, c_37, c_72, c_84, c_96]; done) | exact lv_sub hl [0, 1, 2, 3, 4, 5, 6] rfl)
                · have hf : fnR (σ 277) mb x y = nI k := by unfold fnR; rw [hs]; exact if_pos (show fbR (σ 277) (mnI x y) (mxI x y) k = 1 from by unfold fbR; simp only [c_84, c_96, ↓reduceIte])
                  have h0 : (0 : Int32) ≤ nI k := nI_pos' (by omega)
                  refine lv_aload_n hx hb dX11_puts_99 rfl (lv_at hl 3 rfl) ?_
                  refine lv_bipush (v := 9) hx hb dX11_puts_100 (by decide) ?_
                  refine lv_iload hx hb dX11_puts_102 (lv_at hl 0 rfl) ?_
                  refine cVie (As := [.int 9, .int (nI k)]) S G 276 (c_X11_refuses l (D := D) (ct := ct) (ek := ek) (ad := ad) (N0 := N0) (X := X) (F := F) σ 9 (nI k)) ok_yX11_refuses ml_RX11_75 (by decide) oM rfl hP hS hl.1 rfl (by decide) rfl rfl (Nat.le_of_ble_eq_true rfl) ⟨Nat.zero_le _, Nat.zero_le _⟩ dX11_puts_104 (fun H locs hP hS => ?_)
                  exact eZ S hr hlocks hP hS (by decide) dX11_puts_107 (by first | (refine ⟨?_, ?_⟩ <;> simp only [ptB, ptM, c_5, c_13, c_20, c_37, c_72, c_84, c_96, hf, h0, ↓reduceIte, if_true, if_false, eq_self]; done) | (refine ⟨?_, rfl⟩; simp only [ptB, ptM, c_5, c_13, c_20, c_37, c_72, c_84, c_96, hf, h0, ↓reduceIte, if_true, if_false, eq_self]; done) | exact ⟨rfl, rfl⟩ | (refine ⟨?_, rfl⟩; simp [ptB, ptM, c_5, c_13, c_20, c_37, c_72, c_84, c_96, hf, h0]; done) | (simp [ptB, ptM, c_5, c_13, c_20, c_37, c_72, c_84, c_96, hf, h0]; done) | grind [ptB, ptM])
          exact key_64 mb 0 (by omega) rfl _ _ _ hP hS (lv_sub hl [0, 1, 2, 3, 4, 5, 6] rfl)
        · refine lv_aload_n hx hb dX11_puts_40 rfl (lv_at hl 0 rfl) ?_
          refine lv_iconst (v := 1) hx hb dX11_puts_41 (by decide) ?_
          refine lv_iconst (v := 0) hx hb dX11_puts_42 (by decide) ?_
          refine cVie (As := [.int 1, .int 0]) S G 276 (c_X11_refuses l (D := D) (ct := ct) (ek := ek) (ad := ad) (N0 := N0) (X := X) (F := F) σ 1 0) ok_yX11_refuses ml_RX11_75 (by decide) oM rfl hP hS hl.1 rfl (by decide) rfl rfl (Nat.le_of_ble_eq_true rfl) ⟨Nat.zero_le _, Nat.zero_le _⟩ dX11_puts_43 (fun H locs hP hS => ?_)
          exact eZ S hr hlocks hP hS (by decide) dX11_puts_46 (by first | (refine ⟨?_, ?_⟩ <;> simp only [ptB, ptM, c_5, c_13, c_20, c_37, ↓reduceIte, if_true, if_false, eq_self]; done) | (refine ⟨?_, rfl⟩; simp only [ptB, ptM, c_5, c_13, c_20, c_37, ↓reduceIte, if_true, if_false, eq_self]; done) | exact ⟨rfl, rfl⟩ | (refine ⟨?_, rfl⟩; simp [ptB, ptM, c_5, c_13, c_20, c_37]; done) | (simp [ptB, ptM, c_5, c_13, c_20, c_37]; done) | grind [ptB, ptM])
      · refine lv_aload_n hx hb dX11_puts_23 rfl (lv_at hl 0 rfl) ?_
        refine lv_iconst (v := 4) hx hb dX11_puts_24 (by decide) ?_
        refine lv_iload_n hx hb dX11_puts_25 rfl (lv_at hl 1 rfl) ?_
        refine cVie (As := [.int 4, .int x]) S G 276 (c_X11_refuses l (D := D) (ct := ct) (ek := ek) (ad := ad) (N0 := N0) (X := X) (F := F) σ 4 x) ok_yX11_refuses ml_RX11_75 (by decide) oM rfl hP hS hl.1 rfl (by decide) rfl rfl (Nat.le_of_ble_eq_true rfl) ⟨Nat.zero_le _, Nat.zero_le _⟩ dX11_puts_26 (fun H locs hP hS => ?_)
        exact eZ S hr hlocks hP hS (by decide) dX11_puts_29 (by first | (refine ⟨?_, ?_⟩ <;> simp only [ptB, ptM, c_5, c_13, c_20, ↓reduceIte, if_true, if_false, eq_self]; done) | (refine ⟨?_, rfl⟩; simp only [ptB, ptM, c_5, c_13, c_20, ↓reduceIte, if_true, if_false, eq_self]; done) | exact ⟨rfl, rfl⟩ | (refine ⟨?_, rfl⟩; simp [ptB, ptM, c_5, c_13, c_20]; done) | (simp [ptB, ptM, c_5, c_13, c_20]; done) | grind [ptB, ptM])
    · refine lv_iconst (v := 0) hx hb dX11_puts_16 (by decide) ?_
      exact eZ S hr hlocks hP hS (by decide) dX11_puts_17 (by first | (refine ⟨?_, ?_⟩ <;> simp only [ptB, ptM, c_5, c_13, ↓reduceIte, if_true, if_false, eq_self]; done) | (refine ⟨?_, rfl⟩; simp only [ptB, ptM, c_5, c_13, ↓reduceIte, if_true, if_false, eq_self]; done) | exact ⟨rfl, rfl⟩ | (refine ⟨?_, rfl⟩; simp [ptB, ptM, c_5, c_13]; done) | (simp [ptB, ptM, c_5, c_13]; done) | grind [ptB, ptM])

theorem ok_yX11_beam_ : COK RX11 yX11_beam_ cX11_beam_ 4 (some .int) 3 := ⟨im_yX11_beam_, se_RX11_yX11_beam_, in_RX11, co_yX11_beam_, ⟨rfl, by decide +kernel, by decide +kernel, by decide +kernel⟩, by decide⟩
set_option maxHeartbeats 1000000 in
set_option maxRecDepth 100000 in
theorem c_X11_beam_ (l : Launch) {D : va_G} {ct : Nat → ClassId} {ek ad : Nat → Nat} {N0 : Nat} {X : va_W} {F : State → Prop} (σ : Mem) (x : Int32) (y : Int32) (z : Int32) (n : Nat) (hn : σ 277 0 = nI n) (hn6 : n ≤ 6) (mb : Nat) (hm : σ 277 1 = nI mb) (hm6 : mb ≤ 6) (u : Nat) (hu : σ 276 4 = nI u) (hu8 : u ≤ 8) : MI l yX11_beam_ cX11_beam_ 4 (some .int) 4 D ct ek ad N0 X F [.ref (ad 276), .int x, .int y, .int z] σ (fun r τ => r = endV (ptB (triM σ) mb x y z) (ptM (triM σ) mb x y z) ∧ τ = endM (ptB (triM σ) mb x y z) (ptM (triM σ) mb x y z) u) := by
  refine ms0 (own := RX11) (by decide) rfl (Nat.le_of_ble_eq_true rfl) (fun p e s m args below meth c S hr hlocks hnm G hP hS ls hl => ?_)
  have hx := S.1
  have hb := S.2.1
  replace hl : lv_has ls 4 [(0, .ref (ad 276)), (1, .int x), (2, .int y), (3, .int z)] := hl
  refine lv_aload_n hx hb dX11_beam__0 rfl (lv_at hl 0 rfl) ?_
  refine cVve (As := []) S G 276 (c_X11_tries l (D := D) (ct := ct) (ek := ek) (ad := ad) (N0 := N0) (X := X) (F := F) σ) ok_yX11_tries ml_RX11_116 (by decide) oM rfl hP hS hl.1 rfl (by decide) rfl rfl (Nat.le_of_ble_eq_true rfl) ⟨Nat.zero_le _, Nat.zero_le _⟩ dX11_beam__1 (fun H locs hP hS => ?_)
  refine lv_aload_n hx hb dX11_beam__4 rfl (lv_at hl 0 rfl) ?_
  refine lv_aload_n hx hb dX11_beam__5 rfl (lv_at hl 0 rfl) ?_
  refine lv_iload_n hx hb dX11_beam__6 rfl (lv_at hl 1 rfl) ?_
  refine lv_iload_n hx hb dX11_beam__7 rfl (lv_at hl 2 rfl) ?_
  refine lv_iload_n hx hb dX11_beam__8 rfl (lv_at hl 3 rfl) ?_
  refine cVie (As := [.int x, .int y, .int z]) S G 276 (c_X11_puts l (D := D) (ct := ct) (ek := ek) (ad := ad) (N0 := N0) (X := X) (F := F) (triM σ) x y z n (by rw [triM_c (by decide) (by decide)]; exact hn) (by omega) mb (by rw [triM_c (by decide) (by decide)]; exact hm) (by omega)) ok_yX11_puts ml_RX11_156 (by decide) oM rfl hP hS hl.1 rfl (by decide) rfl rfl (Nat.le_of_ble_eq_true rfl) ⟨Nat.zero_le _, Nat.zero_le _⟩ dX11_beam__9 (fun H locs hP hS => ?_)
  refine cVie (As := [.int (ptB (triM σ) mb x y z)]) S G 276 (c_X11_ends l (D := D) (ct := ct) (ek := ek) (ad := ad) (N0 := N0) (X := X) (F := F) (ptM (triM σ) mb x y z) (ptB (triM σ) mb x y z) u (by rw [ptM_k (by decide), triM_276 (by decide)]; exact hu) (by omega)) ok_yX11_ends ml_RX11_122 (by decide) oM rfl hP hS hl.1 rfl (by decide) rfl rfl (Nat.le_of_ble_eq_true rfl) ⟨Nat.zero_le _, Nat.zero_le _⟩ dX11_beam__12 (fun H locs hP hS => ?_)
  exact eI S hr hlocks hP hS dX11_beam__15 (by first | exact ⟨rfl, rfl⟩ | (refine ⟨?_, rfl⟩; simp []; done) | (simp []; done) | (simp only [↓reduceIte, if_true, if_false, and_self, true_and]; done) | grind [])

theorem ok_yX11_takesAway : COK RX11 yX11_takesAway cX11_takesAway 2 (some .boolean) 1 := ⟨im_yX11_takesAway, se_RX11_yX11_takesAway, in_RX11, co_yX11_takesAway, ⟨rfl, by decide +kernel, by decide +kernel, by decide +kernel⟩, by decide⟩
set_option maxHeartbeats 1000000 in
set_option maxRecDepth 100000 in
theorem c_X11_takesAway (l : Launch) {D : va_G} {ct : Nat → ClassId} {ek ad : Nat → Nat} {N0 : Nat} {X : va_W} {F : State → Prop} (σ : Mem) (x : Int32) (mb : Nat) (hm : σ 277 1 = nI mb) (hm6 : mb ≤ 6) : MI l yX11_takesAway cX11_takesAway 2 (some .boolean) 1 D ct ek ad N0 X F [.ref (ad 276), .int x] σ (fun r τ => r = tkB σ x ∧ τ = tkM σ mb x) := by
  refine ms0 (own := RX11) (by decide) rfl (Nat.le_of_ble_eq_true rfl) (fun p e s m args below meth c S hr hlocks hnm G hP hS ls hl => ?_)
  have hx := S.1
  have hb := S.2.1
  replace hl : lv_has ls 2 [(0, .ref (ad 276)), (1, .int x)] := hl
  refine lv_iload_n hx hb dX11_takesAway_0 rfl (lv_at hl 1 rfl) ?_
  refine lv_iconst (v := 0) hx hb dX11_takesAway_1 (by decide) ?_
  refine lv_aload_n hx hb dX11_takesAway_2 rfl (lv_at hl 0 rfl) ?_
  refine gf S G hP 276 0 (by decide) oM rfl inX11 (by decide) fl_RX11_9 rfl rfl dX11_takesAway_3 ?_
  refine lv_iconst (v := 1) hx hb dX11_takesAway_6 (by decide) ?_
  refine ald S G hP 277 1 (by decide) (aM277 _) (by decide) (by omega) (by decide) dX11_takesAway_7 ?_
  refine lv_iconst (v := 1) hx hb dX11_takesAway_8 (by decide) ?_
  refine lv_isub hx hb dX11_takesAway_9 ?_
  refine cSie (As := [.int x, .int 0, .int ((σ 277 1) - 1)]) S G (c_X11_in l (D := D) (ct := ct) (ek := ek) (ad := ad) (N0 := N0) (X := X) (F := F) σ x 0 ((σ 277 1) - 1)) ok_yX11_in ml_RX11_67 hP hS hl.1 rfl (by decide) rfl rfl (Nat.le_of_ble_eq_true rfl) ⟨Nat.zero_le _, Nat.zero_le _⟩ dX11_takesAway_10 (fun H locs hP hS => ?_)
  refine lv_if_ne (tgt := 29) hx hb dX11_takesAway_13 (by decide) (fun c_13 => ?_) (fun c_13 => ?_)
  · obtain ⟨h1, h1l⟩ := rngN c_13 hm (by omega)
    refine lv_aload_n hx hb dX11_takesAway_29 rfl (lv_at hl 0 rfl) ?_
    refine lv_iload_n hx hb dX11_takesAway_30 rfl (lv_at hl 1 rfl) ?_
    refine lv_tope (y := nI (tN (x))) h1 ?_
    refine cVve (As := [.int (nI (tN (x)))]) S G 276 (c_X11_drops l (D := D) (ct := ct) (ek := ek) (ad := ad) (N0 := N0) (X := X) (F := F) σ (tN (x)) (by omega) mb (by first | assumption | omega | (simp [sg_at]; assumption) | (simp [sg_at]; done)) (by omega) (by omega)) ok_yX11_drops ml_RX11_138 (by decide) oM rfl hP hS hl.1 rfl (by decide) rfl rfl (Nat.le_of_ble_eq_true rfl) ⟨Nat.zero_le _, Nat.zero_le _⟩ dX11_takesAway_31 (fun H locs hP hS => ?_)
    refine lv_aload_n hx hb dX11_takesAway_34 rfl (lv_at hl 0 rfl) ?_
    refine lv_aload_n hx hb dX11_takesAway_35 rfl (lv_at hl 0 rfl) ?_
    refine gf S G hP 276 0 (by decide) oM rfl inX11 (by decide) fl_RX11_9 rfl rfl dX11_takesAway_36 ?_
    refine lv_iconst (v := 1) hx hb dX11_takesAway_39 (by decide) ?_
    refine ald S G hP 277 1 (by decide) (aM277 _) (by decide) (by omega) (by decide) dX11_takesAway_40 ?_
    refine lv_tope (y := nI (mb - 1)) (by rw [sb_s]; exact drpR_1) ?_
    refine cVie (As := [.int (nI (mb - 1))]) S G 276 (c_X11_does l (D := D) (ct := ct) (ek := ek) (ad := ad) (N0 := N0) (X := X) (F := F) (sb σ 277 (drpR (σ 277) (tN (x)) mb)) (nI (mb - 1))) ok_yX11_does ml_RX11_113 (by decide) oM rfl hP hS hl.1 rfl (by decide) rfl rfl (Nat.le_of_ble_eq_true rfl) ⟨Nat.zero_le _, Nat.zero_le _⟩ dX11_takesAway_41 (fun H locs hP hS => ?_)
    exact eZ S hr hlocks hP hS (by decide) dX11_takesAway_44 (by first | (refine ⟨?_, ?_⟩ <;> simp only [tkB, tkM, mn1, c_13, ↓reduceIte, if_true, if_false, eq_self]; done) | (refine ⟨?_, rfl⟩; simp only [tkB, tkM, mn1, c_13, ↓reduceIte, if_true, if_false, eq_self]; done) | exact ⟨rfl, rfl⟩ | (refine ⟨?_, rfl⟩; simp [tkB, tkM, mn1, c_13]; done) | (simp [tkB, tkM, mn1, c_13]; done) | grind [tkB, tkM, mn1])
  · refine lv_aload_n hx hb dX11_takesAway_16 rfl (lv_at hl 0 rfl) ?_
    refine lv_bipush (v := 8) hx hb dX11_takesAway_17 (by decide) ?_
    refine lv_aload_n hx hb dX11_takesAway_19 rfl (lv_at hl 0 rfl) ?_
    refine gf S G hP 276 0 (by decide) oM rfl inX11 (by decide) fl_RX11_9 rfl rfl dX11_takesAway_20 ?_
    refine lv_iconst (v := 1) hx hb dX11_takesAway_23 (by decide) ?_
    refine ald S G hP 277 1 (by decide) (aM277 _) (by decide) (by omega) (by decide) dX11_takesAway_24 ?_
    refine cVie (As := [.int 8, .int (σ 277 1)]) S G 276 (c_X11_refuses l (D := D) (ct := ct) (ek := ek) (ad := ad) (N0 := N0) (X := X) (F := F) σ 8 (σ 277 1)) ok_yX11_refuses ml_RX11_75 (by decide) oM rfl hP hS hl.1 rfl (by decide) rfl rfl (Nat.le_of_ble_eq_true rfl) ⟨Nat.zero_le _, Nat.zero_le _⟩ dX11_takesAway_25 (fun H locs hP hS => ?_)
    exact eZ S hr hlocks hP hS (by decide) dX11_takesAway_28 (by first | (refine ⟨?_, ?_⟩ <;> simp only [tkB, tkM, mn1, c_13, ↓reduceIte, if_true, if_false, eq_self]; done) | (refine ⟨?_, rfl⟩; simp only [tkB, tkM, mn1, c_13, ↓reduceIte, if_true, if_false, eq_self]; done) | exact ⟨rfl, rfl⟩ | (refine ⟨?_, rfl⟩; simp [tkB, tkM, mn1, c_13]; done) | (simp [tkB, tkM, mn1, c_13]; done) | grind [tkB, tkM, mn1])

theorem ok_yX11_remove : COK RX11 yX11_remove cX11_remove 2 (some .int) 1 := ⟨im_yX11_remove, se_RX11_yX11_remove, in_RX11, co_yX11_remove, ⟨rfl, by decide +kernel, by decide +kernel, by decide +kernel⟩, by decide⟩
set_option maxHeartbeats 1000000 in
set_option maxRecDepth 100000 in
theorem c_X11_remove (l : Launch) {D : va_G} {ct : Nat → ClassId} {ek ad : Nat → Nat} {N0 : Nat} {X : va_W} {F : State → Prop} (σ : Mem) (x : Int32) (mb : Nat) (hm : σ 277 1 = nI mb) (hm6 : mb ≤ 6) (u : Nat) (hu : σ 276 4 = nI u) (hu8 : u ≤ 8) : MI l yX11_remove cX11_remove 2 (some .int) 2 D ct ek ad N0 X F [.ref (ad 276), .int x] σ (fun r τ => r = endV (tkB (triM σ) x) (tkM (triM σ) mb x) ∧ τ = endM (tkB (triM σ) x) (tkM (triM σ) mb x) u) := by
  refine ms0 (own := RX11) (by decide) rfl (Nat.le_of_ble_eq_true rfl) (fun p e s m args below meth c S hr hlocks hnm G hP hS ls hl => ?_)
  have hx := S.1
  have hb := S.2.1
  replace hl : lv_has ls 2 [(0, .ref (ad 276)), (1, .int x)] := hl
  refine lv_aload_n hx hb dX11_remove_0 rfl (lv_at hl 0 rfl) ?_
  refine cVve (As := []) S G 276 (c_X11_tries l (D := D) (ct := ct) (ek := ek) (ad := ad) (N0 := N0) (X := X) (F := F) σ) ok_yX11_tries ml_RX11_116 (by decide) oM rfl hP hS hl.1 rfl (by decide) rfl rfl (Nat.le_of_ble_eq_true rfl) ⟨Nat.zero_le _, Nat.zero_le _⟩ dX11_remove_1 (fun H locs hP hS => ?_)
  refine lv_aload_n hx hb dX11_remove_4 rfl (lv_at hl 0 rfl) ?_
  refine lv_aload_n hx hb dX11_remove_5 rfl (lv_at hl 0 rfl) ?_
  refine lv_iload_n hx hb dX11_remove_6 rfl (lv_at hl 1 rfl) ?_
  refine cVie (As := [.int x]) S G 276 (c_X11_takesAway l (D := D) (ct := ct) (ek := ek) (ad := ad) (N0 := N0) (X := X) (F := F) (triM σ) x mb (by rw [triM_c (by decide) (by decide)]; exact hm) (by omega)) ok_yX11_takesAway ml_RX11_159 (by decide) oM rfl hP hS hl.1 rfl (by decide) rfl rfl (Nat.le_of_ble_eq_true rfl) ⟨Nat.zero_le _, Nat.zero_le _⟩ dX11_remove_7 (fun H locs hP hS => ?_)
  refine cVie (As := [.int (tkB (triM σ) x)]) S G 276 (c_X11_ends l (D := D) (ct := ct) (ek := ek) (ad := ad) (N0 := N0) (X := X) (F := F) (tkM (triM σ) mb x) (tkB (triM σ) x) u (by rw [tkM_k (by decide), triM_276 (by decide)]; exact hu) (by omega)) ok_yX11_ends ml_RX11_122 (by decide) oM rfl hP hS hl.1 rfl (by decide) rfl rfl (Nat.le_of_ble_eq_true rfl) ⟨Nat.zero_le _, Nat.zero_le _⟩ dX11_remove_10 (fun H locs hP hS => ?_)
  exact eI S hr hlocks hP hS dX11_remove_13 (by first | exact ⟨rfl, rfl⟩ | (refine ⟨?_, rfl⟩; simp []; done) | (simp []; done) | (simp only [↓reduceIte, if_true, if_false, and_self, true_and]; done) | grind [])

theorem ok_yX11_accustoms : COK RX11 yX11_accustoms cX11_accustoms 4 (some .boolean) 2 := ⟨im_yX11_accustoms, se_RX11_yX11_accustoms, in_RX11, co_yX11_accustoms, ⟨rfl, by decide +kernel, by decide +kernel, by decide +kernel⟩, by decide⟩
set_option maxHeartbeats 1000000 in
set_option maxRecDepth 100000 in
theorem c_X11_accustoms (l : Launch) {D : va_G} {ct : Nat → ClassId} {ek ad : Nat → Nat} {N0 : Nat} {X : va_W} {F : State → Prop} (σ : Mem) (x : Int32) (y : Int32) (n : Nat) (hn : σ 277 0 = nI n) (hn6 : n ≤ 6) : MI l yX11_accustoms cX11_accustoms 4 (some .boolean) 3 D ct ek ad N0 X F [.ref (ad 276), .int x, .int y] σ (fun r τ => r = acB σ x y ∧ τ = acM σ x y) := by
  refine ms0 (own := RX11) (by decide) rfl (Nat.le_of_ble_eq_true rfl) (fun p e s m args below meth c S hr hlocks hnm G hP hS ls hl => ?_)
  have hx := S.1
  have hb := S.2.1
  replace hl : lv_has ls 4 [(0, .ref (ad 276)), (1, .int x), (2, .int y)] := hl
  refine lv_aload_n hx hb dX11_accustoms_0 rfl (lv_at hl 0 rfl) ?_
  refine lv_iload_n hx hb dX11_accustoms_1 rfl (lv_at hl 1 rfl) ?_
  refine cVie (As := [.int x]) S G 276 (c_X11_isThere l (D := D) (ct := ct) (ek := ek) (ad := ad) (N0 := N0) (X := X) (F := F) σ x) ok_yX11_isThere ml_RX11_126 (by decide) oM rfl hP hS hl.1 rfl (by decide) rfl rfl (Nat.le_of_ble_eq_true rfl) ⟨Nat.zero_le _, Nat.zero_le _⟩ dX11_accustoms_2 (fun H locs hP hS => ?_)
  refine lv_if_ne (tgt := 10) hx hb dX11_accustoms_5 (by decide) (fun c_5 => ?_) (fun c_5 => ?_)
  · rw [tcM_1 c_5] at hP
    refine lv_iload_n hx hb dX11_accustoms_10 rfl (lv_at hl 2 rfl) ?_
    refine lv_iconst (v := 0) hx hb dX11_accustoms_11 (by decide) ?_
    refine lv_bipush (v := 9) hx hb dX11_accustoms_12 (by decide) ?_
    refine cSie (As := [.int y, .int 0, .int 9]) S G (c_X11_in l (D := D) (ct := ct) (ek := ek) (ad := ad) (N0 := N0) (X := X) (F := F) σ y 0 9) ok_yX11_in ml_RX11_67 hP hS hl.1 rfl (by decide) rfl rfl (Nat.le_of_ble_eq_true rfl) ⟨Nat.zero_le _, Nat.zero_le _⟩ dX11_accustoms_14 (fun H locs hP hS => ?_)
    refine lv_if_ne (tgt := 27) hx hb dX11_accustoms_17 (by decide) (fun c_17 => ?_) (fun c_17 => ?_)
    · obtain ⟨h1, h1l⟩ := tcB_N c_5 hn hn6
      refine lv_aload_n hx hb dX11_accustoms_27 rfl (lv_at hl 0 rfl) ?_
      refine lv_iload_n hx hb dX11_accustoms_28 rfl (lv_at hl 1 rfl) ?_
      refine lv_tope (y := nI (tN (x))) h1 ?_
      refine lv_iconst (v := 1) hx hb dX11_accustoms_29 (by decide) ?_
      refine cVie (As := [.int (nI (tN (x))), .int (nI 1)]) S G 276 (c_X11_of l (D := D) (ct := ct) (ek := ek) (ad := ad) (N0 := N0) (X := X) (F := F) σ (tN (x)) (by omega) 1 (by omega)) ok_yX11_of ml_RX11_83 (by decide) oM rfl hP hS hl.1 rfl (by decide) rfl rfl (Nat.le_of_ble_eq_true rfl) ⟨Nat.zero_le _, Nat.zero_le _⟩ dX11_accustoms_30 (fun H locs hP hS => ?_)
      refine lv_istore_n (lv' := [(3, .int (σ 277 (6 + 5 * (tN (x)) + 1))), (0, .ref (ad 276)), (1, .int x), (2, .int y)]) hx hb dX11_accustoms_33 rfl hl (by decide) rfl (fun ls hl => ?_)
      refine lv_iload_n hx hb dX11_accustoms_34 rfl (lv_at hl 0 rfl) ?_
      refine lv_iload_n hx hb dX11_accustoms_35 rfl (lv_at hl 3 rfl) ?_
      refine lv_icmp_ne (tgt := 46) hx hb dX11_accustoms_36 (by decide) (fun c_36 => ?_) (fun c_36 => ?_)
      · refine lv_aload_n hx hb dX11_accustoms_46 rfl (lv_at hl 1 rfl) ?_
        refine lv_iload_n hx hb dX11_accustoms_47 rfl (lv_at hl 2 rfl) ?_
        refine lv_tope (y := nI (tN (x))) h1 ?_
        refine lv_iconst (v := 1) hx hb dX11_accustoms_48 (by decide) ?_
        refine lv_iload_n hx hb dX11_accustoms_49 rfl (lv_at hl 3 rfl) ?_
        refine cVve (As := [.int (nI (tN (x))), .int (nI 1), .int y]) S G 276 (c_X11_sets l (D := D) (ct := ct) (ek := ek) (ad := ad) (N0 := N0) (X := X) (F := F) σ (tN (x)) (by omega) 1 (by omega) y) ok_yX11_sets ml_RX11_109 (by decide) oM rfl hP hS hl.1 rfl (by decide) rfl rfl (Nat.le_of_ble_eq_true rfl) ⟨Nat.zero_le _, Nat.zero_le _⟩ dX11_accustoms_50 (fun H locs hP hS => ?_)
        refine lv_aload_n hx hb dX11_accustoms_53 rfl (lv_at hl 1 rfl) ?_
        refine lv_iload_n hx hb dX11_accustoms_54 rfl (lv_at hl 0 rfl) ?_
        refine cVie (As := [.int (σ 277 (6 + 5 * (tN (x)) + 1))]) S G 276 (c_X11_does l (D := D) (ct := ct) (ek := ek) (ad := ad) (N0 := N0) (X := X) (F := F) (sg σ 277 (6 + 5 * (tN (x)) + 1) y) (σ 277 (6 + 5 * (tN (x)) + 1))) ok_yX11_does ml_RX11_113 (by decide) oM rfl hP hS hl.1 rfl (by decide) rfl rfl (Nat.le_of_ble_eq_true rfl) ⟨Nat.zero_le _, Nat.zero_le _⟩ dX11_accustoms_55 (fun H locs hP hS => ?_)
        exact eZ S hr hlocks hP hS (by decide) dX11_accustoms_58 (by first | (refine ⟨?_, ?_⟩ <;> simp only [acB, acM, c_5, c_17, c_36, ↓reduceIte, if_true, if_false, eq_self]; done) | (refine ⟨?_, rfl⟩; simp only [acB, acM, c_5, c_17, c_36, ↓reduceIte, if_true, if_false, eq_self]; done) | exact ⟨rfl, rfl⟩ | (refine ⟨?_, rfl⟩; simp [acB, acM, c_5, c_17, c_36]; done) | (simp [acB, acM, c_5, c_17, c_36]; done) | grind [acB, acM])
      · refine lv_aload_n hx hb dX11_accustoms_39 rfl (lv_at hl 1 rfl) ?_
        refine lv_iconst (v := 5) hx hb dX11_accustoms_40 (by decide) ?_
        refine lv_iload_n hx hb dX11_accustoms_41 rfl (lv_at hl 3 rfl) ?_
        refine cVie (As := [.int 5, .int y]) S G 276 (c_X11_refuses l (D := D) (ct := ct) (ek := ek) (ad := ad) (N0 := N0) (X := X) (F := F) σ 5 y) ok_yX11_refuses ml_RX11_75 (by decide) oM rfl hP hS hl.1 rfl (by decide) rfl rfl (Nat.le_of_ble_eq_true rfl) ⟨Nat.zero_le _, Nat.zero_le _⟩ dX11_accustoms_42 (fun H locs hP hS => ?_)
        exact eZ S hr hlocks hP hS (by decide) dX11_accustoms_45 (by first | (refine ⟨?_, ?_⟩ <;> simp only [acB, acM, c_5, c_17, c_36, ↓reduceIte, if_true, if_false, eq_self]; done) | (refine ⟨?_, rfl⟩; simp only [acB, acM, c_5, c_17, c_36, ↓reduceIte, if_true, if_false, eq_self]; done) | exact ⟨rfl, rfl⟩ | (refine ⟨?_, rfl⟩; simp [acB, acM, c_5, c_17, c_36]; done) | (simp [acB, acM, c_5, c_17, c_36]; done) | grind [acB, acM])
    · refine lv_aload_n hx hb dX11_accustoms_20 rfl (lv_at hl 0 rfl) ?_
      refine lv_iconst (v := 1) hx hb dX11_accustoms_21 (by decide) ?_
      refine lv_iconst (v := 0) hx hb dX11_accustoms_22 (by decide) ?_
      refine cVie (As := [.int 1, .int 0]) S G 276 (c_X11_refuses l (D := D) (ct := ct) (ek := ek) (ad := ad) (N0 := N0) (X := X) (F := F) σ 1 0) ok_yX11_refuses ml_RX11_75 (by decide) oM rfl hP hS hl.1 rfl (by decide) rfl rfl (Nat.le_of_ble_eq_true rfl) ⟨Nat.zero_le _, Nat.zero_le _⟩ dX11_accustoms_23 (fun H locs hP hS => ?_)
      exact eZ S hr hlocks hP hS (by decide) dX11_accustoms_26 (by first | (refine ⟨?_, ?_⟩ <;> simp only [acB, acM, c_5, c_17, ↓reduceIte, if_true, if_false, eq_self]; done) | (refine ⟨?_, rfl⟩; simp only [acB, acM, c_5, c_17, ↓reduceIte, if_true, if_false, eq_self]; done) | exact ⟨rfl, rfl⟩ | (refine ⟨?_, rfl⟩; simp [acB, acM, c_5, c_17]; done) | (simp [acB, acM, c_5, c_17]; done) | grind [acB, acM])
  · refine lv_iconst (v := 0) hx hb dX11_accustoms_8 (by decide) ?_
    exact eZ S hr hlocks hP hS (by decide) dX11_accustoms_9 (by first | (refine ⟨?_, ?_⟩ <;> simp only [acB, acM, c_5, ↓reduceIte, if_true, if_false, eq_self]; done) | (refine ⟨?_, rfl⟩; simp only [acB, acM, c_5, ↓reduceIte, if_true, if_false, eq_self]; done) | exact ⟨rfl, rfl⟩ | (refine ⟨?_, rfl⟩; simp [acB, acM, c_5]; done) | (simp [acB, acM, c_5]; done) | grind [acB, acM])

theorem ok_yX11_habit : COK RX11 yX11_habit cX11_habit 3 (some .int) 2 := ⟨im_yX11_habit, se_RX11_yX11_habit, in_RX11, co_yX11_habit, ⟨rfl, by decide +kernel, by decide +kernel, by decide +kernel⟩, by decide⟩
set_option maxHeartbeats 1000000 in
set_option maxRecDepth 100000 in
theorem c_X11_habit (l : Launch) {D : va_G} {ct : Nat → ClassId} {ek ad : Nat → Nat} {N0 : Nat} {X : va_W} {F : State → Prop} (σ : Mem) (x : Int32) (y : Int32) (n : Nat) (hn : σ 277 0 = nI n) (hn6 : n ≤ 6) (u : Nat) (hu : σ 276 4 = nI u) (hu8 : u ≤ 8) : MI l yX11_habit cX11_habit 3 (some .int) 4 D ct ek ad N0 X F [.ref (ad 276), .int x, .int y] σ (fun r τ => r = endV (acB (triM σ) x y) (acM (triM σ) x y) ∧ τ = endM (acB (triM σ) x y) (acM (triM σ) x y) u) := by
  refine ms0 (own := RX11) (by decide) rfl (Nat.le_of_ble_eq_true rfl) (fun p e s m args below meth c S hr hlocks hnm G hP hS ls hl => ?_)
  have hx := S.1
  have hb := S.2.1
  replace hl : lv_has ls 3 [(0, .ref (ad 276)), (1, .int x), (2, .int y)] := hl
  refine lv_aload_n hx hb dX11_habit_0 rfl (lv_at hl 0 rfl) ?_
  refine cVve (As := []) S G 276 (c_X11_tries l (D := D) (ct := ct) (ek := ek) (ad := ad) (N0 := N0) (X := X) (F := F) σ) ok_yX11_tries ml_RX11_116 (by decide) oM rfl hP hS hl.1 rfl (by decide) rfl rfl (Nat.le_of_ble_eq_true rfl) ⟨Nat.zero_le _, Nat.zero_le _⟩ dX11_habit_1 (fun H locs hP hS => ?_)
  refine lv_aload_n hx hb dX11_habit_4 rfl (lv_at hl 0 rfl) ?_
  refine lv_aload_n hx hb dX11_habit_5 rfl (lv_at hl 0 rfl) ?_
  refine lv_iload_n hx hb dX11_habit_6 rfl (lv_at hl 1 rfl) ?_
  refine lv_iload_n hx hb dX11_habit_7 rfl (lv_at hl 2 rfl) ?_
  refine cVie (As := [.int x, .int y]) S G 276 (c_X11_accustoms l (D := D) (ct := ct) (ek := ek) (ad := ad) (N0 := N0) (X := X) (F := F) (triM σ) x y n (by rw [triM_c (by decide) (by decide)]; exact hn) (by omega)) ok_yX11_accustoms ml_RX11_162 (by decide) oM rfl hP hS hl.1 rfl (by decide) rfl rfl (Nat.le_of_ble_eq_true rfl) ⟨Nat.zero_le _, Nat.zero_le _⟩ dX11_habit_8 (fun H locs hP hS => ?_)
  refine cVie (As := [.int (acB (triM σ) x y)]) S G 276 (c_X11_ends l (D := D) (ct := ct) (ek := ek) (ad := ad) (N0 := N0) (X := X) (F := F) (acM (triM σ) x y) (acB (triM σ) x y) u (by rw [acM_k (by decide), triM_276 (by decide)]; exact hu) (by omega)) ok_yX11_ends ml_RX11_122 (by decide) oM rfl hP hS hl.1 rfl (by decide) rfl rfl (Nat.le_of_ble_eq_true rfl) ⟨Nat.zero_le _, Nat.zero_le _⟩ dX11_habit_11 (fun H locs hP hS => ?_)
  exact eI S hr hlocks hP hS dX11_habit_14 (by first | exact ⟨rfl, rfl⟩ | (refine ⟨?_, rfl⟩; simp []; done) | (simp []; done) | (simp only [↓reduceIte, if_true, if_false, and_self, true_and]; done) | grind [])

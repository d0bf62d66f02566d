/-! Beams, on; Camps; Change: the walks (laid by wip/p43/spec_camps.py) -/
theorem ok_yX1_breakAll : COK RX1 yX1_breakAll cX1_breakAll 3 (some .int) 0 := ⟨im_yX1_breakAll, se_RX1_yX1_breakAll, in_RX1, co_yX1_breakAll, ⟨rfl, by decide +kernel, by decide +kernel, by decide +kernel⟩, by decide⟩
set_option maxHeartbeats 1000000 in
set_option maxRecDepth 100000 in
theorem c_X1_breakAll (l : Launch) {D : va_G} {ct : Nat → ClassId} {ek ad : Nat → Nat} {N0 : Nat} {X : va_W} {F : State → Prop} (σ : Mem) (bb : Nat) (hbb : isB bb) (mb : Nat) (hm : σ bb 4 = nI mb) (hm6 : mb ≤ 6) : MI l yX1_breakAll cX1_breakAll 3 (some .int) 1 D ct ek ad N0 X F [.ref (ad bb)] σ (fun r τ => r = nI (mb - (brk bb mb σ mb).2) ∧ τ = (brk bb mb σ mb).1) := by
  refine ms0 (own := RX1) (by decide) rfl (Nat.le_of_ble_eq_true rfl) (fun p e s m args below meth c S hr hlocks hnm G hP hS ls hl => ?_)
  have hx := S.1
  have hb := S.2.1
  replace hl : lv_has ls 3 [(0, .ref (ad bb))] := hl
  refine lv_iconst (v := 0) hx hb dX1_breakAll_0 (by decide) ?_
  refine lv_istore_n (lv' := [(1, .int 0), (0, .ref (ad bb))]) hx hb dX1_breakAll_1 rfl hl (by decide) rfl (fun ls hl => ?_)
  refine lv_aload_n hx hb dX1_breakAll_2 rfl (lv_at hl 1 rfl) ?_
  refine gf S G hP bb 4 (isBl0 hbb) (oB hbb) rfl inX1 (by decide) fl_RX1_28 rfl rfl dX1_breakAll_3 ?_
  refine lv_iconst (v := 1) hx hb dX1_breakAll_6 (by decide) ?_
  refine lv_isub hx hb dX1_breakAll_7 ?_
  refine lv_istore_n (lv' := [(2, .int ((σ bb 4) - 1)), (1, .int 0), (0, .ref (ad bb))]) hx hb dX1_breakAll_8 rfl hl (by decide) rfl (fun ls hl => ?_)
  have key_9 : ∀ (d k : Nat), k + d = mb → ∀ (j : Nat), ∀ (τ : Mem), (τ bb 4 = nI j ∧ j ≤ mb ∧ d ≤ j ∧ brk bb mb σ mb = brk bb d τ j) → ∀ (H : Heap) (locs : List Loc) (ls : Array Slot), wP D ct ek ad X τ H → va_S (fr N0) s.heap H locs → lv_has ls 3 [(2, .int (nI d - 1)), (1, .int (nI (mb - j))), (0, .ref (ad bb))] → W p l e (rmd 1 0 0) s m args below meth c H locs 0 0 (MQ below (wQi D ct ek ad N0 X (fun r τ => r = nI (mb - (brk bb mb σ mb).2) ∧ τ = (brk bb mb σ mb).1)) args s 0 0 (fr N0)) (F0 m 9 ls []) := by
    intro d
    induction d with
    | zero =>
      intro k9 hk
      obtain rfl : mb = k9 := by omega
      intro j τ hτ H locs ls hP hS hl
      refine lv_iload_n hx hb dX1_breakAll_9 rfl (lv_at hl 0 rfl) ?_
      refine lv_if_lt (tgt := 37) hx hb dX1_breakAll_10 (by decide) (fun c_10 => ?_) (fun c_10 => absurd (by decide) c_10)
      refine lv_iload_n hx hb dX1_breakAll_37 rfl (lv_at hl 1 rfl) ?_
      exact eI S hr hlocks hP hS dX1_breakAll_38 (by obtain ⟨h1, h2, h3, h4⟩ := hτ; rw [h4]; exact ⟨rfl, rfl⟩)
    | succ d ih =>
      intro k hk j τ hτ H locs ls hP hS hl
      have hkn : k < mb := by omega
      rw [nI_pred] at hl
      have hd6 : d < 6 := by have := hτ.2.1; have := hτ.2.2.1; omega
      refine lv_iload_n hx hb dX1_breakAll_9 rfl (lv_at hl 0 rfl) ?_
      refine lv_if_lt (tgt := 37) hx hb dX1_breakAll_10 (by decide) (fun c_10 => absurd c_10 (nI_pos (by omega))) (fun c_10 => ?_)
      refine lv_aload_n hx hb dX1_breakAll_13 rfl (lv_at hl 2 rfl) ?_
      refine gf S G hP bb 3 (isBl0 hbb) (oB hbb) rfl inX1 (by decide) fl_RX1_19 rfl rfl dX1_breakAll_14 ?_
      refine lv_iload_n hx hb dX1_breakAll_17 rfl (lv_at hl 0 rfl) ?_
      refine ald S G hP (bb + 4) d (isBl hbb (by decide)) ((aB4 hbb) _) rfl (by omega) (by decide) dX1_breakAll_18 ?_
      refine lv_iconst (v := 3) hx hb dX1_breakAll_19 (by decide) ?_
      refine lv_icmp_lt (tgt := 31) hx hb dX1_breakAll_20 (by decide) (fun c_20 => ?_) (fun c_20 => ?_)
      · refine lv_iinc (v := (nI d) + (-1)) (lv' := [(2, .int ((nI d) + (-1))), (1, .int (nI (mb - j))), (0, .ref (ad bb))]) hx hb dX1_breakAll_31 hl (k := 0) rfl rfl (by decide) rfl (fun ls hl => ?_)
        refine lv_goto (tgt := 9) hx hb dX1_breakAll_34 (by decide) ?_
        exact ih (k + 1) (by omega) j _ (⟨hτ.1, hτ.2.1, (by have := hτ.2.2.1; omega), (by rw [hτ.2.2.2]; simp [brk, c_20])⟩) _ _ _ hP hS (lv_v (lv_sub (l' := [(2, .int ((nI d) + (-1))), (1, .int (nI (mb - j))), (0, .ref (ad bb))]) hl [0, 1, 2] rfl) (by rw [Int32.sub_eq_add_neg]))
      · refine lv_aload_n hx hb dX1_breakAll_23 rfl (lv_at hl 2 rfl) ?_
        refine lv_iload_n hx hb dX1_breakAll_24 rfl (lv_at hl 0 rfl) ?_
        refine cVve (As := [.int (nI d)]) S G bb (c_X1_takeAway l (D := D) (ct := ct) (ek := ek) (ad := ad) (N0 := N0) (X := X) (F := F) τ bb hbb d j hτ.1 (by have := hτ.2.1; omega) (by have := hτ.2.2.1; omega)) ok_yX1_takeAway ml_RX1_54 (isBl0 hbb) (oB hbb) rfl hP hS hl.1 rfl (by decide) rfl rfl (Nat.le_of_ble_eq_true rfl) ⟨Nat.zero_le _, Nat.zero_le _⟩ dX1_breakAll_25 (fun H locs hP hS => ?_)
        refine lv_iinc (v := nI ((mb - j) + 1)) (lv' := [(1, .int (nI ((mb - j) + 1))), (2, .int (nI d)), (0, .ref (ad bb))]) hx hb dX1_breakAll_28 hl (k := 1) rfl (nI_inc _) (by decide) rfl (fun ls hl => ?_)
        refine lv_iinc (v := (nI d) + (-1)) (lv' := [(2, .int ((nI d) + (-1))), (1, .int (nI ((mb - j) + 1))), (0, .ref (ad bb))]) hx hb dX1_breakAll_31 hl (k := 1) rfl rfl (by decide) rfl (fun ls hl => ?_)
        refine lv_goto (tgt := 9) hx hb dX1_breakAll_34 (by decide) ?_
        exact ih (k + 1) (by omega) (j - 1) _ (⟨by rw [takeB]; exact sg_ss, (by have := hτ.2.1; omega), (by have := hτ.2.2.1; omega), (by rw [hτ.2.2.2]; simp [brk, c_20])⟩) _ _ _ hP hS (lv_v (lv_sub (l' := [(2, .int ((nI d) + (-1))), (1, .int (nI ((mb - j) + 1))), (0, .ref (ad bb))]) hl [0, 1, 2] rfl) (by rw [Int32.sub_eq_add_neg, show mb - (j - 1) = mb - j + 1 by have := hτ.2.1; have := hτ.2.2.1; omega]))
  exact key_9 mb 0 (by omega) mb _ (⟨hm, Nat.le_refl _, Nat.le_refl _, rfl⟩) _ _ _ hP hS (lv_v (lv_sub (l' := [(2, .int ((σ bb 4) - 1)), (1, .int 0), (0, .ref (ad bb))]) hl [0, 1, 2] rfl) (by simp [nI_0, hm]))

theorem ok_yX1_isWeaker : COK RX1 yX1_isWeaker cX1_isWeaker 6 (some .boolean) 3 := ⟨im_yX1_isWeaker, se_RX1_yX1_isWeaker, in_RX1, co_yX1_isWeaker, ⟨rfl, by decide +kernel, by decide +kernel, by decide +kernel⟩, by decide⟩
set_option maxHeartbeats 1000000 in
set_option maxRecDepth 100000 in
theorem c_X1_isWeaker (l : Launch) {D : va_G} {ct : Nat → ClassId} {ek ad : Nat → Nat} {N0 : Nat} {X : va_W} {F : State → Prop} (σ : Mem) (bb : Nat) (hbb : isB bb) (i : Nat) (j : Nat) (pb : Nat) (hpb : isP pb) (mb : Nat) (hB : BOK σ bb mb) (hi : i < mb) (hj : j < mb) : MI l yX1_isWeaker cX1_isWeaker 6 (some .boolean) 3 D ct ek ad N0 X F [.ref (ad bb), .int (nI i), .int (nI j), .ref (ad pb)] σ (fun r τ => r = weakB σ bb pb i j ∧ τ = σ) := by
  refine ms0 (own := RX1) (by decide) rfl (Nat.le_of_ble_eq_true rfl) (fun p e s m args below meth c S hr hlocks hnm G hP hS ls hl => ?_)
  have hx := S.1
  have hb := S.2.1
  replace hl : lv_has ls 6 [(0, .ref (ad bb)), (1, .int (nI i)), (2, .int (nI j)), (3, .ref (ad pb))] := hl
  have hm6 := hB.2.1
  refine lv_aload_n hx hb dX1_isWeaker_0 rfl (lv_at hl 0 rfl) ?_
  refine gf S G hP bb 2 (isBl0 hbb) (oB hbb) rfl inX1 (by decide) fl_RX1_16 rfl rfl dX1_isWeaker_1 ?_
  refine lv_iload_n hx hb dX1_isWeaker_4 rfl (lv_at hl 1 rfl) ?_
  refine ald S G hP (bb + 3) i (isBl hbb (by decide)) ((aB3 hbb) _) rfl (by omega) (by decide) dX1_isWeaker_5 ?_
  refine lv_aload_n hx hb dX1_isWeaker_6 rfl (lv_at hl 0 rfl) ?_
  refine lv_iload_n hx hb dX1_isWeaker_7 rfl (lv_at hl 1 rfl) ?_
  refine lv_aload_n hx hb dX1_isWeaker_8 rfl (lv_at hl 3 rfl) ?_
  refine cVie (As := [.int (nI i), .ref (ad pb)]) S G bb (c_X1_differenceAt l (D := D) (ct := ct) (ek := ek) (ad := ad) (N0 := N0) (X := X) (F := F) σ bb hbb i pb hpb mb (by first | assumption | omega | (simp [sg_at]; assumption) | (simp [sg_at]; done)) (by omega)) ok_yX1_differenceAt ml_RX1_46 (isBl0 hbb) (oB hbb) rfl hP hS hl.1 rfl (by decide) rfl rfl (Nat.le_of_ble_eq_true rfl) ⟨Nat.zero_le _, Nat.zero_le _⟩ dX1_isWeaker_9 (fun H locs hP hS => ?_)
  refine lv_isub hx hb dX1_isWeaker_12 ?_
  refine lv_istore (lv' := [(4, .int ((σ (bb + 3) i) - (diffB σ bb pb i))), (0, .ref (ad bb)), (1, .int (nI i)), (2, .int (nI j)), (3, .ref (ad pb))]) hx hb dX1_isWeaker_13 hl (by decide) rfl (fun ls hl => ?_)
  refine lv_aload_n hx hb dX1_isWeaker_15 rfl (lv_at hl 1 rfl) ?_
  refine gf S G hP bb 2 (isBl0 hbb) (oB hbb) rfl inX1 (by decide) fl_RX1_16 rfl rfl dX1_isWeaker_16 ?_
  refine lv_iload_n hx hb dX1_isWeaker_19 rfl (lv_at hl 3 rfl) ?_
  refine ald S G hP (bb + 3) j (isBl hbb (by decide)) ((aB3 hbb) _) rfl (by omega) (by decide) dX1_isWeaker_20 ?_
  refine lv_aload_n hx hb dX1_isWeaker_21 rfl (lv_at hl 1 rfl) ?_
  refine lv_iload_n hx hb dX1_isWeaker_22 rfl (lv_at hl 3 rfl) ?_
  refine lv_aload_n hx hb dX1_isWeaker_23 rfl (lv_at hl 4 rfl) ?_
  refine cVie (As := [.int (nI j), .ref (ad pb)]) S G bb (c_X1_differenceAt l (D := D) (ct := ct) (ek := ek) (ad := ad) (N0 := N0) (X := X) (F := F) σ bb hbb j pb hpb mb (by first | assumption | omega | (simp [sg_at]; assumption) | (simp [sg_at]; done)) hj) ok_yX1_differenceAt ml_RX1_46 (isBl0 hbb) (oB hbb) rfl hP hS hl.1 rfl (by decide) rfl rfl (Nat.le_of_ble_eq_true rfl) ⟨Nat.zero_le _, Nat.zero_le _⟩ dX1_isWeaker_24 (fun H locs hP hS => ?_)
  refine lv_isub hx hb dX1_isWeaker_27 ?_
  refine lv_istore (lv' := [(5, .int ((σ (bb + 3) j) - (diffB σ bb pb j))), (4, .int ((σ (bb + 3) i) - (diffB σ bb pb i))), (0, .ref (ad bb)), (1, .int (nI i)), (2, .int (nI j)), (3, .ref (ad pb))]) hx hb dX1_isWeaker_28 hl (by decide) rfl (fun ls hl => ?_)
  refine lv_iload hx hb dX1_isWeaker_30 (lv_at hl 1 rfl) ?_
  refine lv_iload hx hb dX1_isWeaker_32 (lv_at hl 0 rfl) ?_
  refine lv_icmp_eq (tgt := 50) hx hb dX1_isWeaker_34 (by decide) (fun c_34 => ?_) (fun c_34 => ?_)
  · refine lv_aload_n hx hb dX1_isWeaker_50 rfl (lv_at hl 2 rfl) ?_
    refine gf S G hP bb 3 (isBl0 hbb) (oB hbb) rfl inX1 (by decide) fl_RX1_19 rfl rfl dX1_isWeaker_51 ?_
    refine lv_iload_n hx hb dX1_isWeaker_54 rfl (lv_at hl 3 rfl) ?_
    refine ald S G hP (bb + 4) i (isBl hbb (by decide)) ((aB4 hbb) _) rfl (by omega) (by decide) dX1_isWeaker_55 ?_
    refine lv_aload_n hx hb dX1_isWeaker_56 rfl (lv_at hl 2 rfl) ?_
    refine gf S G hP bb 3 (isBl0 hbb) (oB hbb) rfl inX1 (by decide) fl_RX1_19 rfl rfl dX1_isWeaker_57 ?_
    refine lv_iload_n hx hb dX1_isWeaker_60 rfl (lv_at hl 4 rfl) ?_
    refine ald S G hP (bb + 4) j (isBl hbb (by decide)) ((aB4 hbb) _) rfl (by omega) (by decide) dX1_isWeaker_61 ?_
    refine lv_icmp_eq (tgt := 86) hx hb dX1_isWeaker_62 (by decide) (fun c_62 => ?_) (fun c_62 => ?_)
    · refine lv_iload_n hx hb dX1_isWeaker_86 rfl (lv_at hl 3 rfl) ?_
      refine lv_iload_n hx hb dX1_isWeaker_87 rfl (lv_at hl 4 rfl) ?_
      refine lv_icmp_ge (tgt := 95) hx hb dX1_isWeaker_88 (by decide) (fun c_88 => ?_) (fun c_88 => ?_)
      · refine lv_iconst (v := 0) hx hb dX1_isWeaker_95 (by decide) ?_
        exact eZ S hr hlocks hP hS (by decide) dX1_isWeaker_96 (by first | (refine ⟨?_, ?_⟩ <;> simp only [weakB, c_34, c_62, c_88, ↓reduceIte, if_true, if_false, eq_self]; done) | (refine ⟨?_, rfl⟩; simp only [weakB, c_34, c_62, c_88, ↓reduceIte, if_true, if_false, eq_self]; done) | exact ⟨rfl, rfl⟩ | (refine ⟨?_, rfl⟩; simp [weakB, c_34, c_62, c_88]; done) | (simp [weakB, c_34, c_62, c_88]; done) | grind [weakB])
      · refine lv_iconst (v := 1) hx hb dX1_isWeaker_91 (by decide) ?_
        refine lv_goto (tgt := 96) hx hb dX1_isWeaker_92 (by decide) ?_
        exact eZ S hr hlocks hP hS (by decide) dX1_isWeaker_96 (by first | (refine ⟨?_, ?_⟩ <;> simp only [weakB, c_34, c_62, c_88, ↓reduceIte, if_true, if_false, eq_self]; done) | (refine ⟨?_, rfl⟩; simp only [weakB, c_34, c_62, c_88, ↓reduceIte, if_true, if_false, eq_self]; done) | exact ⟨rfl, rfl⟩ | (refine ⟨?_, rfl⟩; simp [weakB, c_34, c_62, c_88]; done) | (simp [weakB, c_34, c_62, c_88]; done) | grind [weakB])
    · refine lv_aload_n hx hb dX1_isWeaker_65 rfl (lv_at hl 2 rfl) ?_
      refine gf S G hP bb 3 (isBl0 hbb) (oB hbb) rfl inX1 (by decide) fl_RX1_19 rfl rfl dX1_isWeaker_66 ?_
      refine lv_iload_n hx hb dX1_isWeaker_69 rfl (lv_at hl 3 rfl) ?_
      refine ald S G hP (bb + 4) i (isBl hbb (by decide)) ((aB4 hbb) _) rfl (by omega) (by decide) dX1_isWeaker_70 ?_
      refine lv_aload_n hx hb dX1_isWeaker_71 rfl (lv_at hl 2 rfl) ?_
      refine gf S G hP bb 3 (isBl0 hbb) (oB hbb) rfl inX1 (by decide) fl_RX1_19 rfl rfl dX1_isWeaker_72 ?_
      refine lv_iload_n hx hb dX1_isWeaker_75 rfl (lv_at hl 4 rfl) ?_
      refine ald S G hP (bb + 4) j (isBl hbb (by decide)) ((aB4 hbb) _) rfl (by omega) (by decide) dX1_isWeaker_76 ?_
      refine lv_icmp_le (tgt := 84) hx hb dX1_isWeaker_77 (by decide) (fun c_77 => ?_) (fun c_77 => ?_)
      · refine lv_iconst (v := 0) hx hb dX1_isWeaker_84 (by decide) ?_
        exact eZ S hr hlocks hP hS (by decide) dX1_isWeaker_85 (by first | (refine ⟨?_, ?_⟩ <;> simp only [weakB, c_34, c_62, c_77, ↓reduceIte, if_true, if_false, eq_self]; done) | (refine ⟨?_, rfl⟩; simp only [weakB, c_34, c_62, c_77, ↓reduceIte, if_true, if_false, eq_self]; done) | exact ⟨rfl, rfl⟩ | (refine ⟨?_, rfl⟩; simp [weakB, c_34, c_62, c_77]; done) | (simp [weakB, c_34, c_62, c_77]; done) | grind [weakB])
      · refine lv_iconst (v := 1) hx hb dX1_isWeaker_80 (by decide) ?_
        refine lv_goto (tgt := 85) hx hb dX1_isWeaker_81 (by decide) ?_
        exact eZ S hr hlocks hP hS (by decide) dX1_isWeaker_85 (by first | (refine ⟨?_, ?_⟩ <;> simp only [weakB, c_34, c_62, c_77, ↓reduceIte, if_true, if_false, eq_self]; done) | (refine ⟨?_, rfl⟩; simp only [weakB, c_34, c_62, c_77, ↓reduceIte, if_true, if_false, eq_self]; done) | exact ⟨rfl, rfl⟩ | (refine ⟨?_, rfl⟩; simp [weakB, c_34, c_62, c_77]; done) | (simp [weakB, c_34, c_62, c_77]; done) | grind [weakB])
  · refine lv_iload hx hb dX1_isWeaker_37 (lv_at hl 1 rfl) ?_
    refine lv_iload hx hb dX1_isWeaker_39 (lv_at hl 0 rfl) ?_
    refine lv_icmp_ge (tgt := 48) hx hb dX1_isWeaker_41 (by decide) (fun c_41 => ?_) (fun c_41 => ?_)
    · refine lv_iconst (v := 0) hx hb dX1_isWeaker_48 (by decide) ?_
      exact eZ S hr hlocks hP hS (by decide) dX1_isWeaker_49 (by first | (refine ⟨?_, ?_⟩ <;> simp only [weakB, c_34, c_41, ↓reduceIte, if_true, if_false, eq_self]; done) | (refine ⟨?_, rfl⟩; simp only [weakB, c_34, c_41, ↓reduceIte, if_true, if_false, eq_self]; done) | exact ⟨rfl, rfl⟩ | (refine ⟨?_, rfl⟩; simp [weakB, c_34, c_41]; done) | (simp [weakB, c_34, c_41]; done) | grind [weakB])
    · refine lv_iconst (v := 1) hx hb dX1_isWeaker_44 (by decide) ?_
      refine lv_goto (tgt := 49) hx hb dX1_isWeaker_45 (by decide) ?_
      exact eZ S hr hlocks hP hS (by decide) dX1_isWeaker_49 (by first | (refine ⟨?_, ?_⟩ <;> simp only [weakB, c_34, c_41, ↓reduceIte, if_true, if_false, eq_self]; done) | (refine ⟨?_, rfl⟩; simp only [weakB, c_34, c_41, ↓reduceIte, if_true, if_false, eq_self]; done) | exact ⟨rfl, rfl⟩ | (refine ⟨?_, rfl⟩; simp [weakB, c_34, c_41]; done) | (simp [weakB, c_34, c_41]; done) | grind [weakB])

theorem ok_yX1_atPlace : COK RX1 yX1_atPlace cX1_atPlace 6 (some .int) 2 := ⟨im_yX1_atPlace, se_RX1_yX1_atPlace, in_RX1, co_yX1_atPlace, ⟨rfl, by decide +kernel, by decide +kernel, by decide +kernel⟩, by decide⟩
set_option maxHeartbeats 1000000 in
set_option maxRecDepth 100000 in
theorem c_X1_atPlace (l : Launch) {D : va_G} {ct : Nat → ClassId} {ek ad : Nat → Nat} {N0 : Nat} {X : va_W} {F : State → Prop} (σ : Mem) (bb : Nat) (hbb : isB bb) (x : Int32) (pb : Nat) (hpb : isP pb) (mb : Nat) (hB : BOK σ bb mb) : MI l yX1_atPlace cX1_atPlace 6 (some .int) 4 D ct ek ad N0 X F [.ref (ad bb), .int x, .ref (ad pb)] σ (fun r τ => r = srch (fun k => cntB (fun q => weakB σ bb pb q k) mb) x mb 0 ∧ τ = σ) := by
  refine ms0 (own := RX1) (by decide) rfl (Nat.le_of_ble_eq_true rfl) (fun p e s m args below meth c S hr hlocks hnm G hP hS ls hl => ?_)
  have hx := S.1
  have hb := S.2.1
  replace hl : lv_has ls 6 [(0, .ref (ad bb)), (1, .int x), (2, .ref (ad pb))] := hl
  have hm := hB.1
  have hm6 := hB.2.1
  refine lv_iconst (v := 0) hx hb dX1_atPlace_0 (by decide) ?_
  refine lv_istore_n (lv' := [(3, .int 0), (0, .ref (ad bb)), (1, .int x), (2, .ref (ad pb))]) hx hb dX1_atPlace_1 rfl hl (by decide) rfl (fun ls hl => ?_)
  have key_2 : ∀ (d k : Nat), k + d = mb → (srch (fun k => cntB (fun q => weakB σ bb pb q k) mb) x mb 0 = srch (fun k => cntB (fun q => weakB σ bb pb q k) mb) x d k) → ∀ (H : Heap) (locs : List Loc) (ls : Array Slot), wP D ct ek ad X σ H → va_S (fr N0) s.heap H locs → lv_has ls 6 [(3, .int (nI k)), (0, .ref (ad bb)), (1, .int x), (2, .ref (ad pb))] → W p l e (rmd 4 0 0) s m args below meth c H locs 0 0 (MQ below (wQi D ct ek ad N0 X (fun r τ => r = srch (fun k => cntB (fun q => weakB σ bb pb q k) mb) x mb 0 ∧ τ = σ)) args s 0 0 (fr N0)) (F0 m 2 ls []) := by
    intro d
    induction d with
    | zero =>
      intro k9 hk
      obtain rfl : mb = k9 := by omega
      intro hs H locs ls hP hS hl
      refine lv_iload_n hx hb dX1_atPlace_2 rfl (lv_at hl 0 rfl) ?_
      refine lv_aload_n hx hb dX1_atPlace_3 rfl (lv_at hl 1 rfl) ?_
      refine gf S G hP bb 4 (isBl0 hbb) (oB hbb) rfl inX1 (by decide) fl_RX1_28 rfl rfl dX1_atPlace_4 ?_
      refine lv_icmp_ge (tgt := 59) hx hb dX1_atPlace_7 (by decide) (fun c_7 => ?_) (fun c_7 => absurd (by rw [hm]; exact nI_le (by omega) (by omega)) c_7)
      refine lv_iconst (v := (-1)) hx hb dX1_atPlace_59 (by decide) ?_
      exact eI S hr hlocks hP hS dX1_atPlace_60 (by first | exact ⟨by rw [hs]; rfl, rfl⟩ | exact ⟨by rw [hs]; simp [srch, c_7], rfl⟩)
    | succ d ih =>
      intro k hk hs H locs ls hP hS hl
      have hkn : k < mb := by omega
      refine lv_iload_n hx hb dX1_atPlace_2 rfl (lv_at hl 0 rfl) ?_
      refine lv_aload_n hx hb dX1_atPlace_3 rfl (lv_at hl 1 rfl) ?_
      refine gf S G hP bb 4 (isBl0 hbb) (oB hbb) rfl inX1 (by decide) fl_RX1_28 rfl rfl dX1_atPlace_4 ?_
      refine lv_icmp_ge (tgt := 59) hx hb dX1_atPlace_7 (by decide) (fun c_7 => absurd c_7 (by rw [hm]; exact nI_ge (by omega) (by omega))) (fun c_7 => ?_)
      refine lv_iconst (v := 0) hx hb dX1_atPlace_10 (by decide) ?_
      refine lv_istore (lv' := [(4, .int 0), (3, .int (nI k)), (0, .ref (ad bb)), (1, .int x), (2, .ref (ad pb))]) hx hb dX1_atPlace_11 hl (by decide) rfl (fun ls hl => ?_)
      refine lv_iconst (v := 0) hx hb dX1_atPlace_13 (by decide) ?_
      refine lv_istore (lv' := [(5, .int 0), (4, .int 0), (3, .int (nI k)), (0, .ref (ad bb)), (1, .int x), (2, .ref (ad pb))]) hx hb dX1_atPlace_14 hl (by decide) rfl (fun ls hl => ?_)
      have key_16 : ∀ (d2 t : Nat), t + d2 = mb → ∀ (H : Heap) (locs : List Loc) (ls : Array Slot), wP D ct ek ad X σ H → va_S (fr N0) s.heap H locs → lv_has ls 6 [(5, .int (nI t)), (4, .int (cntB (fun q => weakB σ bb pb q k) t)), (3, .int (nI k)), (0, .ref (ad bb)), (1, .int x), (2, .ref (ad pb))] → W p l e (rmd 4 0 0) s m args below meth c H locs 0 0 (MQ below (wQi D ct ek ad N0 X (fun r τ => r = srch (fun k => cntB (fun q => weakB σ bb pb q k) mb) x mb 0 ∧ τ = σ)) args s 0 0 (fr N0)) (F0 m 16 ls []) := by
        intro d2
        induction d2 with
        | zero =>
          intro k9 hk
          obtain rfl : mb = k9 := by omega
          intro  H locs ls hP hS hl
          refine lv_iload hx hb dX1_atPlace_16 (lv_at hl 0 rfl) ?_
          refine lv_aload_n hx hb dX1_atPlace_18 rfl (lv_at hl 3 rfl) ?_
          refine gf S G hP bb 4 (isBl0 hbb) (oB hbb) rfl inX1 (by decide) fl_RX1_28 rfl rfl dX1_atPlace_19 ?_
          refine lv_icmp_ge (tgt := 45) hx hb dX1_atPlace_22 (by decide) (fun c_22 => ?_) (fun c_22 => absurd (by rw [hm]; exact nI_le (by omega) (by omega)) c_22)
          refine lv_iload hx hb dX1_atPlace_45 (lv_at hl 1 rfl) ?_
          refine lv_iload_n hx hb dX1_atPlace_47 rfl (lv_at hl 4 rfl) ?_
          refine lv_icmp_ne (tgt := 53) hx hb dX1_atPlace_48 (by decide) (fun c_48 => ?_) (fun c_48 => ?_)
          · refine lv_iinc (v := nI (k + 1)) (lv' := [(3, .int (nI (k + 1))), (5, .int (nI mb)), (4, .int (cntB (fun q => weakB σ bb pb q k) mb)), (0, .ref (ad bb)), (1, .int x), (2, .ref (ad pb))]) hx hb dX1_atPlace_53 hl (k := 2) rfl (nI_inc _) (by decide) rfl (fun ls hl => ?_)
            refine lv_goto (tgt := 2) hx hb dX1_atPlace_56 (by decide) ?_
            exact ih (k + 1) (by omega) (by rw [hs]; simp [srch, c_7, c_22, c_48]) _ _ _ hP hS (by first | (refine lv_v (lv_sub (l' := [(3, .int (nI (k + 1))), (0, .ref (ad bb)), (1, .int x), (2, .ref (ad pb))]) hl [0, 3, 4, 5] rfl) ?_; simp [fo, c_7, c_22, c_48]; done) | exact lv_sub hl [0, 3, 4, 5] rfl)
          · refine lv_iload_n hx hb dX1_atPlace_51 rfl (lv_at hl 2 rfl) ?_
            exact eI S hr hlocks hP hS dX1_atPlace_52 (by first | exact ⟨by rw [hs]; rfl, rfl⟩ | exact ⟨by rw [hs]; simp [srch, c_7, c_22, c_48], rfl⟩)
        | succ d2 ih =>
          intro t hk  H locs ls hP hS hl
          have htn : t < mb := by omega
          refine lv_iload hx hb dX1_atPlace_16 (lv_at hl 0 rfl) ?_
          refine lv_aload_n hx hb dX1_atPlace_18 rfl (lv_at hl 3 rfl) ?_
          refine gf S G hP bb 4 (isBl0 hbb) (oB hbb) rfl inX1 (by decide) fl_RX1_28 rfl rfl dX1_atPlace_19 ?_
          refine lv_icmp_ge (tgt := 45) hx hb dX1_atPlace_22 (by decide) (fun c_22 => absurd c_22 (by rw [hm]; exact nI_ge (by omega) (by omega))) (fun c_22 => ?_)
          refine lv_aload_n hx hb dX1_atPlace_25 rfl (lv_at hl 3 rfl) ?_
          refine lv_iload hx hb dX1_atPlace_26 (lv_at hl 0 rfl) ?_
          refine lv_iload_n hx hb dX1_atPlace_28 rfl (lv_at hl 2 rfl) ?_
          refine lv_aload_n hx hb dX1_atPlace_29 rfl (lv_at hl 5 rfl) ?_
          refine cVie (As := [.int (nI t), .int (nI k), .ref (ad pb)]) S G bb (c_X1_isWeaker l (D := D) (ct := ct) (ek := ek) (ad := ad) (N0 := N0) (X := X) (F := F) σ bb hbb t k pb hpb mb (by first | assumption | omega | (simp [sg_at]; assumption) | (simp [sg_at]; done)) (by omega) hkn) ok_yX1_isWeaker ml_RX1_58 (isBl0 hbb) (oB hbb) rfl hP hS hl.1 rfl (by decide) rfl rfl (Nat.le_of_ble_eq_true rfl) ⟨Nat.zero_le _, Nat.zero_le _⟩ dX1_atPlace_30 (fun H locs hP hS => ?_)
          refine lv_if_eq (tgt := 39) hx hb dX1_atPlace_33 (by decide) (fun c_33 => ?_) (fun c_33 => ?_)
          · refine lv_iinc (v := nI (t + 1)) (lv' := [(5, .int (nI (t + 1))), (4, .int (cntB (fun q => weakB σ bb pb q k) t)), (3, .int (nI k)), (0, .ref (ad bb)), (1, .int x), (2, .ref (ad pb))]) hx hb dX1_atPlace_39 hl (k := 0) rfl (nI_inc _) (by decide) rfl (fun ls hl => ?_)
            refine lv_goto (tgt := 16) hx hb dX1_atPlace_42 (by decide) ?_
            exact ih (t + 1) (by omega)  _ _ _ hP hS (by first | (refine lv_v (lv_sub (l' := [(5, .int (nI (t + 1))), (4, .int (cntB (fun q => weakB σ bb pb q k) t)), (3, .int (nI k)), (0, .ref (ad bb)), (1, .int x), (2, .ref (ad pb))]) hl [0, 1, 2, 3, 4, 5] rfl) ?_; simp [fo, cntB, c_7, c_22, c_33]; done) | exact lv_sub hl [0, 1, 2, 3, 4, 5] rfl)
          · refine lv_iinc (v := (cntB (fun q => weakB σ bb pb q k) t) + 1) (lv' := [(4, .int ((cntB (fun q => weakB σ bb pb q k) t) + 1)), (5, .int (nI t)), (3, .int (nI k)), (0, .ref (ad bb)), (1, .int x), (2, .ref (ad pb))]) hx hb dX1_atPlace_36 hl (k := 1) rfl rfl (by decide) rfl (fun ls hl => ?_)
            refine lv_iinc (v := nI (t + 1)) (lv' := [(5, .int (nI (t + 1))), (4, .int ((cntB (fun q => weakB σ bb pb q k) t) + 1)), (3, .int (nI k)), (0, .ref (ad bb)), (1, .int x), (2, .ref (ad pb))]) hx hb dX1_atPlace_39 hl (k := 1) rfl (nI_inc _) (by decide) rfl (fun ls hl => ?_)
            refine lv_goto (tgt := 16) hx hb dX1_atPlace_42 (by decide) ?_
            exact ih (t + 1) (by omega)  _ _ _ hP hS (by first | (refine lv_v (lv_sub (l' := [(5, .int (nI (t + 1))), (4, .int ((cntB (fun q => weakB σ bb pb q k) t) + 1)), (3, .int (nI k)), (0, .ref (ad bb)), (1, .int x), (2, .ref (ad pb))]) hl [0, 1, 2, 3, 4, 5] rfl) ?_; simp [fo, cntB, c_7, c_22, c_33]; done) | exact lv_sub hl [0, 1, 2, 3, 4, 5] rfl)
      exact key_16 mb 0 (by omega)  _ _ _ hP hS (lv_sub hl [0, 1, 2, 3, 4, 5] rfl)
  exact key_2 mb 0 (by omega) rfl _ _ _ hP hS (lv_sub hl [0, 1, 2, 3] rfl)

theorem ok_yX1_copyFrom : COK RX1 yX1_copyFrom cX1_copyFrom 2 none 1 := ⟨im_yX1_copyFrom, se_RX1_yX1_copyFrom, in_RX1, co_yX1_copyFrom, ⟨rfl, by decide +kernel, by decide +kernel, by decide +kernel⟩, by decide⟩
set_option maxHeartbeats 1000000 in
set_option maxRecDepth 100000 in
theorem c_X1_copyFrom (l : Launch) {D : va_G} {ct : Nat → ClassId} {ek ad : Nat → Nat} {N0 : Nat} {X : va_W} {F : State → Prop} (σ : Mem) (bb : Nat) (hbb : isB bb) (eb : Nat) (heb : isB eb) (ha : bb + 5 ≤ eb ∨ eb + 5 ≤ bb) : MV l yX1_copyFrom cX1_copyFrom 2 1 D ct ek ad N0 X F [.ref (ad bb), .ref (ad eb)] σ (fun τ => CpB τ σ bb eb) := by
  refine ms0 (own := RX1) (by decide) rfl (Nat.le_of_ble_eq_true rfl) (fun p e s m args below meth c S hr hlocks hnm G hP hS ls hl => ?_)
  have hx := S.1
  have hb := S.2.1
  replace hl : lv_has ls 2 [(0, .ref (ad bb)), (1, .ref (ad eb))] := hl
  refine lv_aload_n hx hb dX1_copyFrom_0 rfl (lv_at hl 1 rfl) ?_
  refine gf S G hP eb 0 (isBl0 heb) (oB heb) rfl inX1 (by decide) fl_RX1_9 rfl rfl dX1_copyFrom_1 ?_
  refine lv_iconst (v := 0) hx hb dX1_copyFrom_4 (by decide) ?_
  refine lv_aload_n hx hb dX1_copyFrom_5 rfl (lv_at hl 0 rfl) ?_
  refine gf S G hP bb 0 (isBl0 hbb) (oB hbb) rfl inX1 (by decide) fl_RX1_9 rfl rfl dX1_copyFrom_6 ?_
  refine lv_iconst (v := 0) hx hb dX1_copyFrom_9 (by decide) ?_
  refine lv_bipush (v := 6) hx hb dX1_copyFrom_10 (by decide) ?_
  refine rcpy S G hP hS (eb + 1) (bb + 1) 6 rfl (by decide) hl.1 ml_RX1_22 (isBl heb (by decide)) (isBl hbb (by decide)) ((aB1 heb) _) (aB1 hbb) (by decide) (by decide) (by decide) (by omega) (by omega) (by omega) (Nat.le_of_ble_eq_true rfl) dX1_copyFrom_12 (fun H locs hP hS => ?_)
  refine lv_aload_n hx hb dX1_copyFrom_15 rfl (lv_at hl 1 rfl) ?_
  refine gf S G hP eb 1 (isBl0 heb) (oB heb) rfl inX1 (by decide) fl_RX1_13 rfl rfl dX1_copyFrom_16 ?_
  refine lv_iconst (v := 0) hx hb dX1_copyFrom_19 (by decide) ?_
  refine lv_aload_n hx hb dX1_copyFrom_20 rfl (lv_at hl 0 rfl) ?_
  refine gf S G hP bb 1 (isBl0 hbb) (oB hbb) rfl inX1 (by decide) fl_RX1_13 rfl rfl dX1_copyFrom_21 ?_
  refine lv_iconst (v := 0) hx hb dX1_copyFrom_24 (by decide) ?_
  refine lv_bipush (v := 6) hx hb dX1_copyFrom_25 (by decide) ?_
  refine rcpy S G hP hS (eb + 2) (bb + 2) 6 rfl (by decide) hl.1 ml_RX1_22 (isBl heb (by decide)) (isBl hbb (by decide)) ((aB2 heb) _) (aB2 hbb) (by decide) (by decide) (by decide) (by omega) (by omega) (by omega) (Nat.le_of_ble_eq_true rfl) dX1_copyFrom_27 (fun H locs hP hS => ?_)
  have e8 : (sb σ (bb + 1) (fil (σ (eb + 1)) (σ (bb + 1)) 6)) (eb + 2) = σ (eb + 2) := by funext j; grind [sbAp, sg_at]
  have e9 : (sb σ (bb + 1) (fil (σ (eb + 1)) (σ (bb + 1)) 6)) (bb + 2) = σ (bb + 2) := by funext j; grind [sbAp, sg_at]
  rw [e8, e9] at hP
  refine lv_aload_n hx hb dX1_copyFrom_30 rfl (lv_at hl 1 rfl) ?_
  refine gf S G hP eb 2 (isBl0 heb) (oB heb) rfl inX1 (by decide) fl_RX1_16 rfl rfl dX1_copyFrom_31 ?_
  refine lv_iconst (v := 0) hx hb dX1_copyFrom_34 (by decide) ?_
  refine lv_aload_n hx hb dX1_copyFrom_35 rfl (lv_at hl 0 rfl) ?_
  refine gf S G hP bb 2 (isBl0 hbb) (oB hbb) rfl inX1 (by decide) fl_RX1_16 rfl rfl dX1_copyFrom_36 ?_
  refine lv_iconst (v := 0) hx hb dX1_copyFrom_39 (by decide) ?_
  refine lv_bipush (v := 6) hx hb dX1_copyFrom_40 (by decide) ?_
  refine rcpy S G hP hS (eb + 3) (bb + 3) 6 rfl (by decide) hl.1 ml_RX1_22 (isBl heb (by decide)) (isBl hbb (by decide)) ((aB3 heb) _) (aB3 hbb) (by decide) (by decide) (by decide) (by omega) (by omega) (by omega) (Nat.le_of_ble_eq_true rfl) dX1_copyFrom_42 (fun H locs hP hS => ?_)
  have e8 : (sb (sb σ (bb + 1) (fil (σ (eb + 1)) (σ (bb + 1)) 6)) (bb + 2) (fil (σ (eb + 2)) (σ (bb + 2)) 6)) (eb + 3) = σ (eb + 3) := by funext j; grind [sbAp, sg_at]
  have e9 : (sb (sb σ (bb + 1) (fil (σ (eb + 1)) (σ (bb + 1)) 6)) (bb + 2) (fil (σ (eb + 2)) (σ (bb + 2)) 6)) (bb + 3) = σ (bb + 3) := by funext j; grind [sbAp, sg_at]
  rw [e8, e9] at hP
  refine lv_aload_n hx hb dX1_copyFrom_45 rfl (lv_at hl 1 rfl) ?_
  refine gf S G hP eb 3 (isBl0 heb) (oB heb) rfl inX1 (by decide) fl_RX1_19 rfl rfl dX1_copyFrom_46 ?_
  refine lv_iconst (v := 0) hx hb dX1_copyFrom_49 (by decide) ?_
  refine lv_aload_n hx hb dX1_copyFrom_50 rfl (lv_at hl 0 rfl) ?_
  refine gf S G hP bb 3 (isBl0 hbb) (oB hbb) rfl inX1 (by decide) fl_RX1_19 rfl rfl dX1_copyFrom_51 ?_
  refine lv_iconst (v := 0) hx hb dX1_copyFrom_54 (by decide) ?_
  refine lv_bipush (v := 6) hx hb dX1_copyFrom_55 (by decide) ?_
  refine rcpy S G hP hS (eb + 4) (bb + 4) 6 rfl (by decide) hl.1 ml_RX1_22 (isBl heb (by decide)) (isBl hbb (by decide)) ((aB4 heb) _) (aB4 hbb) (by decide) (by decide) (by decide) (by omega) (by omega) (by omega) (Nat.le_of_ble_eq_true rfl) dX1_copyFrom_57 (fun H locs hP hS => ?_)
  have e8 : (sb (sb (sb σ (bb + 1) (fil (σ (eb + 1)) (σ (bb + 1)) 6)) (bb + 2) (fil (σ (eb + 2)) (σ (bb + 2)) 6)) (bb + 3) (fil (σ (eb + 3)) (σ (bb + 3)) 6)) (eb + 4) = σ (eb + 4) := by funext j; grind [sbAp, sg_at]
  have e9 : (sb (sb (sb σ (bb + 1) (fil (σ (eb + 1)) (σ (bb + 1)) 6)) (bb + 2) (fil (σ (eb + 2)) (σ (bb + 2)) 6)) (bb + 3) (fil (σ (eb + 3)) (σ (bb + 3)) 6)) (bb + 4) = σ (bb + 4) := by funext j; grind [sbAp, sg_at]
  rw [e8, e9] at hP
  refine lv_aload_n hx hb dX1_copyFrom_60 rfl (lv_at hl 0 rfl) ?_
  refine lv_aload_n hx hb dX1_copyFrom_61 rfl (lv_at hl 1 rfl) ?_
  refine gf S G hP eb 4 (isBl0 heb) (oB heb) rfl inX1 (by decide) fl_RX1_28 rfl rfl dX1_copyFrom_62 ?_
  refine pf S G hP hS bb 4 (x := (sb (sb (sb (sb σ (bb + 1) (fil (σ (eb + 1)) (σ (bb + 1)) 6)) (bb + 2) (fil (σ (eb + 2)) (σ (bb + 2)) 6)) (bb + 3) (fil (σ (eb + 3)) (σ (bb + 3)) 6)) (bb + 4) (fil (σ (eb + 4)) (σ (bb + 4)) 6)) eb 4) tyX1 tyX1_ok nmX1 (isBl0 hbb) (oB hbb) rfl inX1 (by decide) fl_RX1_28 rfl rfl rfl rfl (Nat.le_of_ble_eq_true rfl) (oB hbb) dX1_copyFrom_65 (fun H locs hP hS => ?_)
  refine eV S hr hlocks hP hS dX1_copyFrom_68 ?_
  refine ⟨fun c hc => ?_, fun o j h1 h2 h3 => ?_, ?_⟩
  · funext j; rw [sg_at, if_neg (by omega)]; simp only [sbAp]; rw [if_neg (by omega), if_neg (by omega), if_neg (by omega), if_neg (by omega)]
  · rw [sg_at, if_neg (by omega)]; rcases (show o = 1 ∨ o = 2 ∨ o = 3 ∨ o = 4 by omega) with rfl | rfl | rfl | rfl <;> simp [sbAp, fil, h3]
  · rw [sg_ss]; simp only [sbAp]; rw [if_neg (by omega), if_neg (by omega), if_neg (by omega), if_neg (by omega)]

theorem ok_yX2_areAllied : COKs RX2 yX2_areAllied cX2_areAllied 3 (some .boolean) 3 := ⟨sm_yX2_areAllied, in_RX2, co_yX2_areAllied, ⟨rfl, by decide +kernel, by decide +kernel, by decide +kernel⟩, by decide⟩
set_option maxHeartbeats 1000000 in
set_option maxRecDepth 100000 in
theorem c_X2_areAllied (l : Launch) {D : va_G} {ct : Nat → ClassId} {ek ad : Nat → Nat} {N0 : Nat} {X : va_W} {F : State → Prop} (σ : Mem) (pb : Nat) (hpb : isP pb) (i : Nat) (hi : i < 6) (j : Nat) (hj : j < 6) : MI l yX2_areAllied cX2_areAllied 3 (some .boolean) 2 D ct ek ad N0 X F [.int (nI i), .int (nI j), .ref (ad pb)] σ (fun r τ => r = alliedB σ pb i j ∧ τ = σ) := by
  refine ms0 (own := RX2) (by decide) rfl (Nat.le_of_ble_eq_true rfl) (fun p e s m args below meth c S hr hlocks hnm G hP hS ls hl => ?_)
  have hx := S.1
  have hb := S.2.1
  replace hl : lv_has ls 3 [(0, .int (nI i)), (1, .int (nI j)), (2, .ref (ad pb))] := hl
  refine lv_aload_n hx hb dX2_areAllied_0 rfl (lv_at hl 2 rfl) ?_
  refine gfN S G hP pb 5 (isPl0 hpb) (oP hpb) rfl inX8 (by decide) nw_RX2_15 rfl rfl dX2_areAllied_1 ?_
  refine lv_iload_n hx hb dX2_areAllied_4 rfl (lv_at hl 0 rfl) ?_
  refine gld S G hP (pb + 6) i (isPl hpb (by decide)) ((gP6 hpb) _) rfl (by omega) (by decide) (if_pos (by omega)) dX2_areAllied_5 ?_
  refine lv_iload_n hx hb dX2_areAllied_6 rfl (lv_at hl 1 rfl) ?_
  refine ald S G hP (pb + 7 + i) j (isPlw hpb (by omega)) ((aPw hpb (by omega)) _) rfl (by omega) (by decide) dX2_areAllied_7 ?_
  refine lv_if_eq (tgt := 36) hx hb dX2_areAllied_8 (by decide) (fun c_8 => ?_) (fun c_8 => ?_)
  · refine lv_iconst (v := 0) hx hb dX2_areAllied_36 (by decide) ?_
    exact eZ S hr hlocks hP hS (by decide) dX2_areAllied_37 (by first | (refine ⟨?_, ?_⟩ <;> simp only [alliedB, c_8, ↓reduceIte, if_true, if_false, eq_self]; done) | (refine ⟨?_, rfl⟩; simp only [alliedB, c_8, ↓reduceIte, if_true, if_false, eq_self]; done) | exact ⟨rfl, rfl⟩ | (refine ⟨?_, rfl⟩; simp [alliedB, c_8]; done) | (simp [alliedB, c_8]; done) | grind [alliedB])
  · refine lv_aload_n hx hb dX2_areAllied_11 rfl (lv_at hl 2 rfl) ?_
    refine lv_iload_n hx hb dX2_areAllied_12 rfl (lv_at hl 0 rfl) ?_
    refine cVie (As := [.int (nI i)]) S G pb (c_X8_sideOf l (D := D) (ct := ct) (ek := ek) (ad := ad) (N0 := N0) (X := X) (F := F) σ pb hpb i (by omega)) ok_yX8_sideOf ml_RX2_19 (isPl0 hpb) (oP hpb) rfl hP hS hl.1 rfl (by decide) rfl rfl (Nat.le_of_ble_eq_true rfl) ⟨Nat.zero_le _, Nat.zero_le _⟩ dX2_areAllied_13 (fun H locs hP hS => ?_)
    refine lv_if_eq (tgt := 36) hx hb dX2_areAllied_16 (by decide) (fun c_16 => ?_) (fun c_16 => ?_)
    · refine lv_iconst (v := 0) hx hb dX2_areAllied_36 (by decide) ?_
      exact eZ S hr hlocks hP hS (by decide) dX2_areAllied_37 (by first | (refine ⟨?_, ?_⟩ <;> simp only [alliedB, c_8, c_16, ↓reduceIte, if_true, if_false, eq_self]; done) | (refine ⟨?_, rfl⟩; simp only [alliedB, c_8, c_16, ↓reduceIte, if_true, if_false, eq_self]; done) | exact ⟨rfl, rfl⟩ | (refine ⟨?_, rfl⟩; simp [alliedB, c_8, c_16]; done) | (simp [alliedB, c_8, c_16]; done) | grind [alliedB])
    · refine lv_aload_n hx hb dX2_areAllied_19 rfl (lv_at hl 2 rfl) ?_
      refine lv_iload_n hx hb dX2_areAllied_20 rfl (lv_at hl 0 rfl) ?_
      refine cVie (As := [.int (nI i)]) S G pb (c_X8_sideOf l (D := D) (ct := ct) (ek := ek) (ad := ad) (N0 := N0) (X := X) (F := F) σ pb hpb i (by omega)) ok_yX8_sideOf ml_RX2_19 (isPl0 hpb) (oP hpb) rfl hP hS hl.1 rfl (by decide) rfl rfl (Nat.le_of_ble_eq_true rfl) ⟨Nat.zero_le _, Nat.zero_le _⟩ dX2_areAllied_21 (fun H locs hP hS => ?_)
      refine lv_aload_n hx hb dX2_areAllied_24 rfl (lv_at hl 2 rfl) ?_
      refine lv_iload_n hx hb dX2_areAllied_25 rfl (lv_at hl 1 rfl) ?_
      refine cVie (As := [.int (nI j)]) S G pb (c_X8_sideOf l (D := D) (ct := ct) (ek := ek) (ad := ad) (N0 := N0) (X := X) (F := F) σ pb hpb j (by omega)) ok_yX8_sideOf ml_RX2_19 (isPl0 hpb) (oP hpb) rfl hP hS hl.1 rfl (by decide) rfl rfl (Nat.le_of_ble_eq_true rfl) ⟨Nat.zero_le _, Nat.zero_le _⟩ dX2_areAllied_26 (fun H locs hP hS => ?_)
      refine lv_icmp_ne (tgt := 36) hx hb dX2_areAllied_29 (by decide) (fun c_29 => ?_) (fun c_29 => ?_)
      · refine lv_iconst (v := 0) hx hb dX2_areAllied_36 (by decide) ?_
        exact eZ S hr hlocks hP hS (by decide) dX2_areAllied_37 (by first | (refine ⟨?_, ?_⟩ <;> simp only [alliedB, c_8, c_16, c_29, ↓reduceIte, if_true, if_false, eq_self]; done) | (refine ⟨?_, rfl⟩; simp only [alliedB, c_8, c_16, c_29, ↓reduceIte, if_true, if_false, eq_self]; done) | exact ⟨rfl, rfl⟩ | (refine ⟨?_, rfl⟩; simp [alliedB, c_8, c_16, c_29]; done) | (simp [alliedB, c_8, c_16, c_29]; done) | grind [alliedB])
      · refine lv_iconst (v := 1) hx hb dX2_areAllied_32 (by decide) ?_
        refine lv_goto (tgt := 37) hx hb dX2_areAllied_33 (by decide) ?_
        exact eZ S hr hlocks hP hS (by decide) dX2_areAllied_37 (by first | (refine ⟨?_, ?_⟩ <;> simp only [alliedB, c_8, c_16, c_29, ↓reduceIte, if_true, if_false, eq_self]; done) | (refine ⟨?_, rfl⟩; simp only [alliedB, c_8, c_16, c_29, ↓reduceIte, if_true, if_false, eq_self]; done) | exact ⟨rfl, rfl⟩ | (refine ⟨?_, rfl⟩; simp [alliedB, c_8, c_16, c_29]; done) | (simp [alliedB, c_8, c_16, c_29]; done) | grind [alliedB])

theorem ok_yX2_alliesOf : COK RX2 yX2_alliesOf cX2_alliesOf 6 (some .int) 2 := ⟨im_yX2_alliesOf, se_RX2_yX2_alliesOf, in_RX2, co_yX2_alliesOf, ⟨rfl, by decide +kernel, by decide +kernel, by decide +kernel⟩, by decide⟩
set_option maxHeartbeats 1000000 in
set_option maxRecDepth 100000 in
theorem c_X2_alliesOf (l : Launch) {D : va_G} {ct : Nat → ClassId} {ek ad : Nat → Nat} {N0 : Nat} {X : va_W} {F : State → Prop} (σ : Mem) (pb : Nat) (hpb : isP pb) (x : Int32) (n : Nat) (hn : σ pb 7 = nI n) (hn6 : n ≤ 6) : MI l yX2_alliesOf cX2_alliesOf 6 (some .int) 3 D ct ek ad N0 X F [.ref (ad 75), .int x, .ref (ad pb)] σ (fun r τ => r = alV σ pb n x n ∧ τ = σ) := by
  refine ms0 (own := RX2) (by decide) rfl (Nat.le_of_ble_eq_true rfl) (fun p e s m args below meth c S hr hlocks hnm G hP hS ls hl => ?_)
  have hx := S.1
  have hb := S.2.1
  replace hl : lv_has ls 6 [(0, .ref (ad 75)), (1, .int x), (2, .ref (ad pb))] := hl
  refine lv_iconst (v := 0) hx hb dX2_alliesOf_0 (by decide) ?_
  refine lv_istore_n (lv' := [(3, .int 0), (0, .ref (ad 75)), (1, .int x), (2, .ref (ad pb))]) hx hb dX2_alliesOf_1 rfl hl (by decide) rfl (fun ls hl => ?_)
  refine lv_iconst (v := 0) hx hb dX2_alliesOf_2 (by decide) ?_
  refine lv_istore (lv' := [(4, .int 0), (3, .int 0), (0, .ref (ad 75)), (1, .int x), (2, .ref (ad pb))]) hx hb dX2_alliesOf_3 hl (by decide) rfl (fun ls hl => ?_)
  have key_5 : ∀ (d k : Nat), k + d = n → ∀ (H : Heap) (locs : List Loc) (ls : Array Slot), wP D ct ek ad X σ H → va_S (fr N0) s.heap H locs → lv_has ls 6 [(4, .int (nI k)), (3, .int (alV σ pb n x k)), (0, .ref (ad 75)), (1, .int x), (2, .ref (ad pb))] → W p l e (rmd 3 0 0) s m args below meth c H locs 0 0 (MQ below (wQi D ct ek ad N0 X (fun r τ => r = alV σ pb n x n ∧ τ = σ)) args s 0 0 (fr N0)) (F0 m 5 ls []) := by
    intro d
    induction d with
    | zero =>
      intro k9 hk
      obtain rfl : n = k9 := by omega
      intro  H locs ls hP hS hl
      refine lv_iload hx hb dX2_alliesOf_5 (lv_at hl 0 rfl) ?_
      refine lv_aload_n hx hb dX2_alliesOf_7 rfl (lv_at hl 4 rfl) ?_
      refine gfN S G hP pb 7 (isPl0 hpb) (oP hpb) rfl inX8 (by decide) nw_RX2_23 rfl rfl dX2_alliesOf_8 ?_
      refine lv_icmp_ge (tgt := 65) hx hb dX2_alliesOf_11 (by decide) (fun c_11 => ?_) (fun c_11 => absurd (by rw [hn]; exact nI_le (by omega) (by omega)) c_11)
      refine lv_iload_n hx hb dX2_alliesOf_65 rfl (lv_at hl 1 rfl) ?_
      exact eI S hr hlocks hP hS dX2_alliesOf_66 (by first | exact ⟨rfl, rfl⟩ | (refine ⟨?_, rfl⟩; simp [c_11]; done) | (simp [c_11]; done) | (simp only [c_11, ↓reduceIte, if_true, if_false, and_self, true_and]; done) | grind [])
    | succ d ih =>
      intro k hk  H locs ls hP hS hl
      have hkn : k < n := by omega
      refine lv_iload hx hb dX2_alliesOf_5 (lv_at hl 0 rfl) ?_
      refine lv_aload_n hx hb dX2_alliesOf_7 rfl (lv_at hl 4 rfl) ?_
      refine gfN S G hP pb 7 (isPl0 hpb) (oP hpb) rfl inX8 (by decide) nw_RX2_23 rfl rfl dX2_alliesOf_8 ?_
      refine lv_icmp_ge (tgt := 65) hx hb dX2_alliesOf_11 (by decide) (fun c_11 => absurd c_11 (by rw [hn]; exact nI_ge (by omega) (by omega))) (fun c_11 => ?_)
      refine lv_iconst (v := 0) hx hb dX2_alliesOf_14 (by decide) ?_
      refine lv_istore (lv' := [(5, .int 0), (4, .int (nI k)), (3, .int (alV σ pb n x k)), (0, .ref (ad 75)), (1, .int x), (2, .ref (ad pb))]) hx hb dX2_alliesOf_15 hl (by decide) rfl (fun ls hl => ?_)
      have key_17 : ∀ (d2 t : Nat), t + d2 = n → ∀ (H : Heap) (locs : List Loc) (ls : Array Slot), wP D ct ek ad X σ H → va_S (fr N0) s.heap H locs → lv_has ls 6 [(5, .int (nI t)), (4, .int (nI k)), (3, .int (alIn σ pb x k (alV σ pb n x k) t)), (0, .ref (ad 75)), (1, .int x), (2, .ref (ad pb))] → W p l e (rmd 3 0 0) s m args below meth c H locs 0 0 (MQ below (wQi D ct ek ad N0 X (fun r τ => r = alV σ pb n x n ∧ τ = σ)) args s 0 0 (fr N0)) (F0 m 17 ls []) := by
        intro d2
        induction d2 with
        | zero =>
          intro k9 hk
          obtain rfl : n = k9 := by omega
          intro  H locs ls hP hS hl
          refine lv_iload hx hb dX2_alliesOf_17 (lv_at hl 0 rfl) ?_
          refine lv_aload_n hx hb dX2_alliesOf_19 rfl (lv_at hl 5 rfl) ?_
          refine gfN S G hP pb 7 (isPl0 hpb) (oP hpb) rfl inX8 (by decide) nw_RX2_23 rfl rfl dX2_alliesOf_20 ?_
          refine lv_icmp_ge (tgt := 59) hx hb dX2_alliesOf_23 (by decide) (fun c_23 => ?_) (fun c_23 => absurd (by rw [hn]; exact nI_le (by omega) (by omega)) c_23)
          refine lv_iinc (v := nI (k + 1)) (lv' := [(4, .int (nI (k + 1))), (5, .int (nI n)), (3, .int (alIn σ pb x k (alV σ pb n x k) n)), (0, .ref (ad 75)), (1, .int x), (2, .ref (ad pb))]) hx hb dX2_alliesOf_59 hl (k := 1) rfl (nI_inc _) (by decide) rfl (fun ls hl => ?_)
          refine lv_goto (tgt := 5) hx hb dX2_alliesOf_62 (by decide) ?_
          exact ih (k + 1) (by omega)  _ _ _ hP hS (by first | (refine lv_v (lv_sub (l' := [(4, .int (nI (k + 1))), (3, .int (alIn σ pb x k (alV σ pb n x k) n)), (0, .ref (ad 75)), (1, .int x), (2, .ref (ad pb))]) hl [0, 2, 3, 4, 5] rfl) ?_; simp [fo, c_11, c_23]; done) | exact lv_sub hl [0, 2, 3, 4, 5] rfl)
        | succ d2 ih =>
          intro t hk  H locs ls hP hS hl
          have htn : t < n := by omega
          refine lv_iload hx hb dX2_alliesOf_17 (lv_at hl 0 rfl) ?_
          refine lv_aload_n hx hb dX2_alliesOf_19 rfl (lv_at hl 5 rfl) ?_
          refine gfN S G hP pb 7 (isPl0 hpb) (oP hpb) rfl inX8 (by decide) nw_RX2_23 rfl rfl dX2_alliesOf_20 ?_
          refine lv_icmp_ge (tgt := 59) hx hb dX2_alliesOf_23 (by decide) (fun c_23 => absurd c_23 (by rw [hn]; exact nI_ge (by omega) (by omega))) (fun c_23 => ?_)
          refine lv_iload_n hx hb dX2_alliesOf_26 rfl (lv_at hl 4 rfl) ?_
          refine lv_iload hx hb dX2_alliesOf_27 (lv_at hl 1 rfl) ?_
          refine lv_ishr hx hb dX2_alliesOf_29 ?_
          refine lv_iconst (v := 1) hx hb dX2_alliesOf_30 (by decide) ?_
          refine lv_iand hx hb dX2_alliesOf_31 ?_
          refine lv_if_eq (tgt := 53) hx hb dX2_alliesOf_32 (by decide) (fun c_32 => ?_) (fun c_32 => ?_)
          · refine lv_iinc (v := nI (t + 1)) (lv' := [(5, .int (nI (t + 1))), (4, .int (nI k)), (3, .int (alIn σ pb x k (alV σ pb n x k) t)), (0, .ref (ad 75)), (1, .int x), (2, .ref (ad pb))]) hx hb dX2_alliesOf_53 hl (k := 0) rfl (nI_inc _) (by decide) rfl (fun ls hl => ?_)
            refine lv_goto (tgt := 17) hx hb dX2_alliesOf_56 (by decide) ?_
            exact ih (t + 1) (by omega)  _ _ _ hP hS (by first | (refine lv_v (lv_sub (l' := [(5, .int (nI (t + 1))), (4, .int (nI k)), (3, .int (alIn σ pb x k (alV σ pb n x k) t)), (0, .ref (ad 75)), (1, .int x), (2, .ref (ad pb))]) hl [0, 1, 2, 3, 4, 5] rfl) ?_; simp [fo, alIn_s, bitV, oneV, c_11, c_23, c_32]; done) | exact lv_sub hl [0, 1, 2, 3, 4, 5] rfl)
          · refine lv_iload hx hb dX2_alliesOf_35 (lv_at hl 1 rfl) ?_
            refine lv_iload hx hb dX2_alliesOf_37 (lv_at hl 0 rfl) ?_
            refine lv_aload_n hx hb dX2_alliesOf_39 rfl (lv_at hl 5 rfl) ?_
            refine cSie (As := [.int (nI k), .int (nI t), .ref (ad pb)]) S G (c_X2_areAllied l (D := D) (ct := ct) (ek := ek) (ad := ad) (N0 := N0) (X := X) (F := F) σ pb hpb k (by omega) t (by omega)) ok_yX2_areAllied ml_RX2_31 hP hS hl.1 rfl (by decide) rfl rfl (Nat.le_of_ble_eq_true rfl) ⟨Nat.zero_le _, Nat.zero_le _⟩ dX2_alliesOf_40 (fun H locs hP hS => ?_)
            refine lv_if_eq (tgt := 53) hx hb dX2_alliesOf_43 (by decide) (fun c_43 => ?_) (fun c_43 => ?_)
            · refine lv_iinc (v := nI (t + 1)) (lv' := [(5, .int (nI (t + 1))), (4, .int (nI k)), (3, .int (alIn σ pb x k (alV σ pb n x k) t)), (0, .ref (ad 75)), (1, .int x), (2, .ref (ad pb))]) hx hb dX2_alliesOf_53 hl (k := 0) rfl (nI_inc _) (by decide) rfl (fun ls hl => ?_)
              refine lv_goto (tgt := 17) hx hb dX2_alliesOf_56 (by decide) ?_
              exact ih (t + 1) (by omega)  _ _ _ hP hS (by first | (refine lv_v (lv_sub (l' := [(5, .int (nI (t + 1))), (4, .int (nI k)), (3, .int (alIn σ pb x k (alV σ pb n x k) t)), (0, .ref (ad 75)), (1, .int x), (2, .ref (ad pb))]) hl [0, 1, 2, 3, 4, 5] rfl) ?_; simp [fo, alIn_s, bitV, oneV, c_11, c_23, c_32, c_43]; done) | exact lv_sub hl [0, 1, 2, 3, 4, 5] rfl)
            · refine lv_iload_n hx hb dX2_alliesOf_46 rfl (lv_at hl 2 rfl) ?_
              refine lv_iconst (v := 1) hx hb dX2_alliesOf_47 (by decide) ?_
              refine lv_iload hx hb dX2_alliesOf_48 (lv_at hl 0 rfl) ?_
              refine lv_ishl hx hb dX2_alliesOf_50 ?_
              refine lv_ior hx hb dX2_alliesOf_51 ?_
              refine lv_istore_n (lv' := [(3, .int ((alIn σ pb x k (alV σ pb n x k) t) ||| (1 <<< ((nI t) &&& 31)))), (5, .int (nI t)), (4, .int (nI k)), (0, .ref (ad 75)), (1, .int x), (2, .ref (ad pb))]) hx hb dX2_alliesOf_52 rfl hl (by decide) rfl (fun ls hl => ?_)
              refine lv_iinc (v := nI (t + 1)) (lv' := [(5, .int (nI (t + 1))), (3, .int ((alIn σ pb x k (alV σ pb n x k) t) ||| (1 <<< ((nI t) &&& 31)))), (4, .int (nI k)), (0, .ref (ad 75)), (1, .int x), (2, .ref (ad pb))]) hx hb dX2_alliesOf_53 hl (k := 1) rfl (nI_inc _) (by decide) rfl (fun ls hl => ?_)
              refine lv_goto (tgt := 17) hx hb dX2_alliesOf_56 (by decide) ?_
              exact ih (t + 1) (by omega)  _ _ _ hP hS (by first | (refine lv_v (lv_sub (l' := [(5, .int (nI (t + 1))), (4, .int (nI k)), (3, .int ((alIn σ pb x k (alV σ pb n x k) t) ||| (1 <<< ((nI t) &&& 31)))), (0, .ref (ad 75)), (1, .int x), (2, .ref (ad pb))]) hl [0, 2, 1, 3, 4, 5] rfl) ?_; simp [fo, alIn_s, bitV, oneV, c_11, c_23, c_32, c_43]; done) | exact lv_sub hl [0, 2, 1, 3, 4, 5] rfl)
      exact key_17 n 0 (by omega)  _ _ _ hP hS (lv_sub hl [0, 1, 2, 3, 4, 5] rfl)
  exact key_5 n 0 (by omega)  _ _ _ hP hS (lv_sub hl [0, 1, 2, 3, 4] rfl)

theorem ok_yX2_campOf : COK RX2 yX2_campOf cX2_campOf 5 (some .int) 2 := ⟨im_yX2_campOf, se_RX2_yX2_campOf, in_RX2, co_yX2_campOf, ⟨rfl, by decide +kernel, by decide +kernel, by decide +kernel⟩, by decide⟩
set_option maxHeartbeats 1000000 in
set_option maxRecDepth 100000 in
theorem c_X2_campOf (l : Launch) {D : va_G} {ct : Nat → ClassId} {ek ad : Nat → Nat} {N0 : Nat} {X : va_W} {F : State → Prop} (σ : Mem) (pb : Nat) (hpb : isP pb) (i : Nat) (n : Nat) (hn : σ pb 7 = nI n) (hn6 : n ≤ 6) (hi : i < n) : MI l yX2_campOf cX2_campOf 5 (some .int) 4 D ct ek ad N0 X F [.ref (ad 75), .int (nI i), .ref (ad pb)] σ (fun r τ => r = campV σ pb n i ∧ τ = σ) := by
  refine ms0 (own := RX2) (by decide) rfl (Nat.le_of_ble_eq_true rfl) (fun p e s m args below meth c S hr hlocks hnm G hP hS ls hl => ?_)
  have hx := S.1
  have hb := S.2.1
  replace hl : lv_has ls 5 [(0, .ref (ad 75)), (1, .int (nI i)), (2, .ref (ad pb))] := hl
  refine lv_aload_n hx hb dX2_campOf_0 rfl (lv_at hl 2 rfl) ?_
  refine lv_iload_n hx hb dX2_campOf_1 rfl (lv_at hl 1 rfl) ?_
  refine cVie (As := [.int (nI i)]) S G pb (c_X8_sideOf l (D := D) (ct := ct) (ek := ek) (ad := ad) (N0 := N0) (X := X) (F := F) σ pb hpb i (by omega)) ok_yX8_sideOf ml_RX2_19 (isPl0 hpb) (oP hpb) rfl hP hS hl.1 rfl (by decide) rfl rfl (Nat.le_of_ble_eq_true rfl) ⟨Nat.zero_le _, Nat.zero_le _⟩ dX2_campOf_2 (fun H locs hP hS => ?_)
  refine lv_if_ne (tgt := 10) hx hb dX2_campOf_5 (by decide) (fun c_5 => ?_) (fun c_5 => ?_)
  · refine lv_iconst (v := 1) hx hb dX2_campOf_10 (by decide) ?_
    refine lv_iload_n hx hb dX2_campOf_11 rfl (lv_at hl 1 rfl) ?_
    refine lv_ishl hx hb dX2_campOf_12 ?_
    refine lv_istore_n (lv' := [(3, .int (1 <<< ((nI i) &&& 31))), (0, .ref (ad 75)), (1, .int (nI i)), (2, .ref (ad pb))]) hx hb dX2_campOf_13 rfl hl (by decide) rfl (fun ls hl => ?_)
    refine lv_iconst (v := 1) hx hb dX2_campOf_14 (by decide) ?_
    refine lv_istore (lv' := [(4, .int 1), (3, .int (1 <<< ((nI i) &&& 31))), (0, .ref (ad 75)), (1, .int (nI i)), (2, .ref (ad pb))]) hx hb dX2_campOf_15 hl (by decide) rfl (fun ls hl => ?_)
    have key_17 : ∀ (d k : Nat), k + d = n - 1 → ∀ (H : Heap) (locs : List Loc) (ls : Array Slot), wP D ct ek ad X σ H → va_S (fr N0) s.heap H locs → lv_has ls 5 [(4, .int (nI (k + 1))), (3, .int (cpIt σ pb n i k)), (0, .ref (ad 75)), (1, .int (nI i)), (2, .ref (ad pb))] → W p l e (rmd 4 0 0) s m args below meth c H locs 0 0 (MQ below (wQi D ct ek ad N0 X (fun r τ => r = campV σ pb n i ∧ τ = σ)) args s 0 0 (fr N0)) (F0 m 17 ls []) := by
      intro d
      induction d with
      | zero =>
        intro k9 hk
        obtain rfl : n - 1 = k9 := by omega
        intro  H locs ls hP hS hl
        refine lv_iload hx hb dX2_campOf_17 (lv_at hl 0 rfl) ?_
        refine lv_aload_n hx hb dX2_campOf_19 rfl (lv_at hl 4 rfl) ?_
        refine gfN S G hP pb 7 (isPl0 hpb) (oP hpb) rfl inX8 (by decide) nw_RX2_23 rfl rfl dX2_campOf_20 ?_
        refine lv_icmp_ge (tgt := 41) hx hb dX2_campOf_23 (by decide) (fun c_23 => ?_) (fun c_23 => absurd (by rw [hn]; exact nI_le (by omega) (by omega)) c_23)
        refine lv_iload_n hx hb dX2_campOf_41 rfl (lv_at hl 1 rfl) ?_
        exact eI S hr hlocks hP hS dX2_campOf_42 (by first | (refine ⟨?_, ?_⟩ <;> simp only [campV, c_5, c_23, ↓reduceIte, if_true, if_false, eq_self]; done) | (refine ⟨?_, rfl⟩; simp only [campV, c_5, c_23, ↓reduceIte, if_true, if_false, eq_self]; done) | exact ⟨rfl, rfl⟩ | (refine ⟨?_, rfl⟩; simp [campV, c_5, c_23]; done) | (simp [campV, c_5, c_23]; done) | grind [campV])
      | succ d ih =>
        intro k hk  H locs ls hP hS hl
        have hkn : k < n - 1 := by omega
        refine lv_iload hx hb dX2_campOf_17 (lv_at hl 0 rfl) ?_
        refine lv_aload_n hx hb dX2_campOf_19 rfl (lv_at hl 4 rfl) ?_
        refine gfN S G hP pb 7 (isPl0 hpb) (oP hpb) rfl inX8 (by decide) nw_RX2_23 rfl rfl dX2_campOf_20 ?_
        refine lv_icmp_ge (tgt := 41) hx hb dX2_campOf_23 (by decide) (fun c_23 => absurd c_23 (by rw [hn]; exact nI_ge (by omega) (by omega))) (fun c_23 => ?_)
        refine lv_iload_n hx hb dX2_campOf_26 rfl (lv_at hl 1 rfl) ?_
        refine lv_aload_n hx hb dX2_campOf_27 rfl (lv_at hl 2 rfl) ?_
        refine lv_iload_n hx hb dX2_campOf_28 rfl (lv_at hl 1 rfl) ?_
        refine lv_aload_n hx hb dX2_campOf_29 rfl (lv_at hl 4 rfl) ?_
        refine cVie (As := [.int (cpIt σ pb n i k), .ref (ad pb)]) S G 75 (c_X2_alliesOf l (D := D) (ct := ct) (ek := ek) (ad := ad) (N0 := N0) (X := X) (F := F) σ pb hpb (cpIt σ pb n i k) n (by first | assumption | omega | (simp [sg_at]; assumption) | (simp [sg_at]; done)) (by omega)) ok_yX2_alliesOf ml_RX2_27 (by decide) oCA rfl hP hS hl.1 rfl (by decide) rfl rfl (Nat.le_of_ble_eq_true rfl) ⟨Nat.zero_le _, Nat.zero_le _⟩ dX2_campOf_30 (fun H locs hP hS => ?_)
        refine lv_ior hx hb dX2_campOf_33 ?_
        refine lv_istore_n (lv' := [(3, .int ((cpIt σ pb n i k) ||| (alV σ pb n (cpIt σ pb n i k) n))), (4, .int (nI (k + 1))), (0, .ref (ad 75)), (1, .int (nI i)), (2, .ref (ad pb))]) hx hb dX2_campOf_34 rfl hl (by decide) rfl (fun ls hl => ?_)
        refine lv_iinc (v := nI ((k + 1) + 1)) (lv' := [(4, .int (nI ((k + 1) + 1))), (3, .int ((cpIt σ pb n i k) ||| (alV σ pb n (cpIt σ pb n i k) n))), (0, .ref (ad 75)), (1, .int (nI i)), (2, .ref (ad pb))]) hx hb dX2_campOf_35 hl (k := 1) rfl (nI_inc _) (by decide) rfl (fun ls hl => ?_)
        refine lv_goto (tgt := 17) hx hb dX2_campOf_38 (by decide) ?_
        exact ih (k + 1) (by omega)  _ _ _ hP hS (by first | (refine lv_v (lv_sub (l' := [(4, .int (nI ((k + 1) + 1))), (3, .int ((cpIt σ pb n i k) ||| (alV σ pb n (cpIt σ pb n i k) n))), (0, .ref (ad 75)), (1, .int (nI i)), (2, .ref (ad pb))]) hl [0, 1, 2, 3, 4] rfl) ?_; simp [fo, campV, c_5, c_23]; done) | exact lv_sub hl [0, 1, 2, 3, 4] rfl)
    exact key_17 (n - 1) 0 (by omega)  _ _ _ hP hS (lv_sub hl [0, 1, 2, 3, 4] rfl)
  · refine lv_iconst (v := 0) hx hb dX2_campOf_8 (by decide) ?_
    exact eI S hr hlocks hP hS dX2_campOf_9 (by first | (refine ⟨?_, ?_⟩ <;> simp only [campV, c_5, ↓reduceIte, if_true, if_false, eq_self]; done) | (refine ⟨?_, rfl⟩; simp only [campV, c_5, ↓reduceIte, if_true, if_false, eq_self]; done) | exact ⟨rfl, rfl⟩ | (refine ⟨?_, rfl⟩; simp [campV, c_5]; done) | (simp [campV, c_5]; done) | grind [campV])

theorem ok_yX2_countByLowest : COK RX2 yX2_countByLowest cX2_countByLowest 6 (some .int) 1 := ⟨im_yX2_countByLowest, se_RX2_yX2_countByLowest, in_RX2, co_yX2_countByLowest, ⟨rfl, by decide +kernel, by decide +kernel, by decide +kernel⟩, by decide⟩
set_option maxHeartbeats 1000000 in
set_option maxRecDepth 100000 in
theorem c_X2_countByLowest (l : Launch) {D : va_G} {ct : Nat → ClassId} {ek ad : Nat → Nat} {N0 : Nat} {X : va_W} {F : State → Prop} (σ : Mem) (pb : Nat) (hpb : isP pb) (n : Nat) (hn : σ pb 7 = nI n) (hn6 : n ≤ 6) : MI l yX2_countByLowest cX2_countByLowest 6 (some .int) 5 D ct ek ad N0 X F [.ref (ad 75), .ref (ad pb)] σ (fun r τ => r = lowV σ pb n n ∧ τ = σ) := by
  refine ms0 (own := RX2) (by decide) rfl (Nat.le_of_ble_eq_true rfl) (fun p e s m args below meth c S hr hlocks hnm G hP hS ls hl => ?_)
  have hx := S.1
  have hb := S.2.1
  replace hl : lv_has ls 6 [(0, .ref (ad 75)), (1, .ref (ad pb))] := hl
  refine lv_iconst (v := 0) hx hb dX2_countByLowest_0 (by decide) ?_
  refine lv_istore_n (lv' := [(2, .int 0), (0, .ref (ad 75)), (1, .ref (ad pb))]) hx hb dX2_countByLowest_1 rfl hl (by decide) rfl (fun ls hl => ?_)
  refine lv_iconst (v := 0) hx hb dX2_countByLowest_2 (by decide) ?_
  refine lv_istore_n (lv' := [(3, .int 0), (2, .int 0), (0, .ref (ad 75)), (1, .ref (ad pb))]) hx hb dX2_countByLowest_3 rfl hl (by decide) rfl (fun ls hl => ?_)
  have key_4 : ∀ (d k : Nat), k + d = n → ∀ (H : Heap) (locs : List Loc) (ls : Array Slot), wP D ct ek ad X σ H → va_S (fr N0) s.heap H locs → lv_has ls 6 [(3, .int (nI k)), (2, .int (lowV σ pb n k)), (0, .ref (ad 75)), (1, .ref (ad pb))] → W p l e (rmd 5 0 0) s m args below meth c H locs 0 0 (MQ below (wQi D ct ek ad N0 X (fun r τ => r = lowV σ pb n n ∧ τ = σ)) args s 0 0 (fr N0)) (F0 m 4 ls []) := by
    intro d
    induction d with
    | zero =>
      intro k9 hk
      obtain rfl : n = k9 := by omega
      intro  H locs ls hP hS hl
      refine lv_iload_n hx hb dX2_countByLowest_4 rfl (lv_at hl 0 rfl) ?_
      refine lv_aload_n hx hb dX2_countByLowest_5 rfl (lv_at hl 3 rfl) ?_
      refine gfN S G hP pb 7 (isPl0 hpb) (oP hpb) rfl inX8 (by decide) nw_RX2_23 rfl rfl dX2_countByLowest_6 ?_
      refine lv_icmp_ge (tgt := 49) hx hb dX2_countByLowest_9 (by decide) (fun c_9 => ?_) (fun c_9 => absurd (by rw [hn]; exact nI_le (by omega) (by omega)) c_9)
      refine lv_iload_n hx hb dX2_countByLowest_49 rfl (lv_at hl 1 rfl) ?_
      exact eI S hr hlocks hP hS dX2_countByLowest_50 (by first | exact ⟨rfl, rfl⟩ | (refine ⟨?_, rfl⟩; simp [c_9]; done) | (simp [c_9]; done) | (simp only [c_9, ↓reduceIte, if_true, if_false, and_self, true_and]; done) | grind [])
    | succ d ih =>
      intro k hk  H locs ls hP hS hl
      have hkn : k < n := by omega
      refine lv_iload_n hx hb dX2_countByLowest_4 rfl (lv_at hl 0 rfl) ?_
      refine lv_aload_n hx hb dX2_countByLowest_5 rfl (lv_at hl 3 rfl) ?_
      refine gfN S G hP pb 7 (isPl0 hpb) (oP hpb) rfl inX8 (by decide) nw_RX2_23 rfl rfl dX2_countByLowest_6 ?_
      refine lv_icmp_ge (tgt := 49) hx hb dX2_countByLowest_9 (by decide) (fun c_9 => absurd c_9 (by rw [hn]; exact nI_ge (by omega) (by omega))) (fun c_9 => ?_)
      refine lv_aload_n hx hb dX2_countByLowest_12 rfl (lv_at hl 2 rfl) ?_
      refine lv_iload_n hx hb dX2_countByLowest_13 rfl (lv_at hl 0 rfl) ?_
      refine lv_aload_n hx hb dX2_countByLowest_14 rfl (lv_at hl 3 rfl) ?_
      refine cVie (As := [.int (nI k), .ref (ad pb)]) S G 75 (c_X2_campOf l (D := D) (ct := ct) (ek := ek) (ad := ad) (N0 := N0) (X := X) (F := F) σ pb hpb k n (by first | assumption | omega | (simp [sg_at]; assumption) | (simp [sg_at]; done)) (by omega) (by omega)) ok_yX2_campOf ml_RX2_35 (by decide) oCA rfl hP hS hl.1 rfl (by decide) rfl rfl (Nat.le_of_ble_eq_true rfl) ⟨Nat.zero_le _, Nat.zero_le _⟩ dX2_countByLowest_15 (fun H locs hP hS => ?_)
      refine lv_istore (lv' := [(4, .int (campV σ pb n k)), (3, .int (nI k)), (2, .int (lowV σ pb n k)), (0, .ref (ad 75)), (1, .ref (ad pb))]) hx hb dX2_countByLowest_18 hl (by decide) rfl (fun ls hl => ?_)
      refine lv_iconst (v := 1) hx hb dX2_countByLowest_20 (by decide) ?_
      refine lv_iload_n hx hb dX2_countByLowest_21 rfl (lv_at hl 1 rfl) ?_
      refine lv_ishl hx hb dX2_countByLowest_22 ?_
      refine lv_iconst (v := 1) hx hb dX2_countByLowest_23 (by decide) ?_
      refine lv_isub hx hb dX2_countByLowest_24 ?_
      refine lv_istore (lv' := [(5, .int ((1 <<< ((nI k) &&& 31)) - 1)), (4, .int (campV σ pb n k)), (3, .int (nI k)), (2, .int (lowV σ pb n k)), (0, .ref (ad 75)), (1, .ref (ad pb))]) hx hb dX2_countByLowest_25 hl (by decide) rfl (fun ls hl => ?_)
      refine lv_iload hx hb dX2_countByLowest_27 (lv_at hl 1 rfl) ?_
      refine lv_if_eq (tgt := 43) hx hb dX2_countByLowest_29 (by decide) (fun c_29 => ?_) (fun c_29 => ?_)
      · refine lv_iinc (v := nI (k + 1)) (lv' := [(3, .int (nI (k + 1))), (5, .int ((1 <<< ((nI k) &&& 31)) - 1)), (4, .int (campV σ pb n k)), (2, .int (lowV σ pb n k)), (0, .ref (ad 75)), (1, .ref (ad pb))]) hx hb dX2_countByLowest_43 hl (k := 2) rfl (nI_inc _) (by decide) rfl (fun ls hl => ?_)
        refine lv_goto (tgt := 4) hx hb dX2_countByLowest_46 (by decide) ?_
        exact ih (k + 1) (by omega)  _ _ _ hP hS (by first | (refine lv_v (lv_sub (l' := [(3, .int (nI (k + 1))), (2, .int (lowV σ pb n k)), (0, .ref (ad 75)), (1, .ref (ad pb))]) hl [0, 3, 4, 5] rfl) ?_; simp [fo, lowV_s, oneV, c_9, c_29]; done) | exact lv_sub hl [0, 3, 4, 5] rfl)
      · refine lv_iload hx hb dX2_countByLowest_32 (lv_at hl 1 rfl) ?_
        refine lv_iload hx hb dX2_countByLowest_34 (lv_at hl 0 rfl) ?_
        refine lv_iand hx hb dX2_countByLowest_36 ?_
        refine lv_if_ne (tgt := 43) hx hb dX2_countByLowest_37 (by decide) (fun c_37 => ?_) (fun c_37 => ?_)
        · refine lv_iinc (v := nI (k + 1)) (lv' := [(3, .int (nI (k + 1))), (5, .int ((1 <<< ((nI k) &&& 31)) - 1)), (4, .int (campV σ pb n k)), (2, .int (lowV σ pb n k)), (0, .ref (ad 75)), (1, .ref (ad pb))]) hx hb dX2_countByLowest_43 hl (k := 2) rfl (nI_inc _) (by decide) rfl (fun ls hl => ?_)
          refine lv_goto (tgt := 4) hx hb dX2_countByLowest_46 (by decide) ?_
          exact ih (k + 1) (by omega)  _ _ _ hP hS (by first | (refine lv_v (lv_sub (l' := [(3, .int (nI (k + 1))), (2, .int (lowV σ pb n k)), (0, .ref (ad 75)), (1, .ref (ad pb))]) hl [0, 3, 4, 5] rfl) ?_; simp [fo, lowV_s, oneV, c_9, c_29, c_37]; done) | exact lv_sub hl [0, 3, 4, 5] rfl)
        · refine lv_iinc (v := (lowV σ pb n k) + 1) (lv' := [(2, .int ((lowV σ pb n k) + 1)), (5, .int ((1 <<< ((nI k) &&& 31)) - 1)), (4, .int (campV σ pb n k)), (3, .int (nI k)), (0, .ref (ad 75)), (1, .ref (ad pb))]) hx hb dX2_countByLowest_40 hl (k := 3) rfl rfl (by decide) rfl (fun ls hl => ?_)
          refine lv_iinc (v := nI (k + 1)) (lv' := [(3, .int (nI (k + 1))), (2, .int ((lowV σ pb n k) + 1)), (5, .int ((1 <<< ((nI k) &&& 31)) - 1)), (4, .int (campV σ pb n k)), (0, .ref (ad 75)), (1, .ref (ad pb))]) hx hb dX2_countByLowest_43 hl (k := 3) rfl (nI_inc _) (by decide) rfl (fun ls hl => ?_)
          refine lv_goto (tgt := 4) hx hb dX2_countByLowest_46 (by decide) ?_
          exact ih (k + 1) (by omega)  _ _ _ hP hS (by first | (refine lv_v (lv_sub (l' := [(3, .int (nI (k + 1))), (2, .int ((lowV σ pb n k) + 1)), (0, .ref (ad 75)), (1, .ref (ad pb))]) hl [0, 1, 4, 5] rfl) ?_; simp [fo, lowV_s, oneV, c_9, c_29, c_37]; done) | exact lv_sub hl [0, 1, 4, 5] rfl)
  exact key_4 n 0 (by omega)  _ _ _ hP hS (lv_sub hl [0, 1, 2, 3] rfl)

theorem ok_yX3_ask : COK RX3 yX3_ask cX3_ask 5 none 4 := ⟨im_yX3_ask, se_RX3_yX3_ask, in_RX3, co_yX3_ask, ⟨rfl, by decide +kernel, by decide +kernel, by decide +kernel⟩, by decide⟩
set_option maxHeartbeats 1000000 in
set_option maxRecDepth 100000 in
theorem c_X3_ask (l : Launch) {D : va_G} {ct : Nat → ClassId} {ek ad : Nat → Nat} {N0 : Nat} {X : va_W} {F : State → Prop} (σ : Mem) (cb : Nat) (hcb : isC cb) (j : Nat) (hj : j < 8) (x : Int32) (y : Int32) (z : Int32) : MV l yX3_ask cX3_ask 5 0 D ct ek ad N0 X F [.ref (ad cb), .ref (ek j), .int x, .int y, .int z] σ (fun τ => τ = askM σ cb j x y z) := by
  refine ms0 (own := RX3) (by decide) rfl (Nat.le_of_ble_eq_true rfl) (fun p e s m args below meth c S hr hlocks hnm G hP hS ls hl => ?_)
  have hx := S.1
  have hb := S.2.1
  replace hl : lv_has ls 5 [(0, .ref (ad cb)), (1, .ref (ek j)), (2, .int x), (3, .int y), (4, .int z)] := hl
  refine lv_aload_n hx hb dX3_ask_0 rfl (lv_at hl 0 rfl) ?_
  refine lv_aload_n hx hb dX3_ask_1 rfl (lv_at hl 1 rfl) ?_
  refine pf S G hP hS cb 0 (x := nI j) tyX3 tyX3_ok nmX3 (isC_lt hcb) (oC hcb) rfl inX3 (by decide) fl_RX3_13 rfl rfl rfl rfl (Nat.le_of_ble_eq_true rfl) (oCk hcb hj) dX3_ask_2 (fun H locs hP hS => ?_)
  refine lv_aload_n hx hb dX3_ask_5 rfl (lv_at hl 0 rfl) ?_
  refine lv_iload_n hx hb dX3_ask_6 rfl (lv_at hl 2 rfl) ?_
  refine pf S G hP hS cb 1 (x := x) tyX3 tyX3_ok nmX3 (isC_lt hcb) (oC hcb) rfl inX3 (by decide) fl_RX3_18 rfl rfl rfl rfl (Nat.le_of_ble_eq_true rfl) (oC hcb) dX3_ask_7 (fun H locs hP hS => ?_)
  refine lv_aload_n hx hb dX3_ask_10 rfl (lv_at hl 0 rfl) ?_
  refine lv_iload_n hx hb dX3_ask_11 rfl (lv_at hl 3 rfl) ?_
  refine pf S G hP hS cb 2 (x := y) tyX3 tyX3_ok nmX3 (isC_lt hcb) (oC hcb) rfl inX3 (by decide) fl_RX3_22 rfl rfl rfl rfl (Nat.le_of_ble_eq_true rfl) (oC hcb) dX3_ask_12 (fun H locs hP hS => ?_)
  refine lv_aload_n hx hb dX3_ask_15 rfl (lv_at hl 0 rfl) ?_
  refine lv_iload hx hb dX3_ask_16 (lv_at hl 4 rfl) ?_
  refine pf S G hP hS cb 3 (x := z) tyX3 tyX3_ok nmX3 (isC_lt hcb) (oC hcb) rfl inX3 (by decide) fl_RX3_25 rfl rfl rfl rfl (Nat.le_of_ble_eq_true rfl) (oC hcb) dX3_ask_18 (fun H locs hP hS => ?_)
  refine lv_aload_n hx hb dX3_ask_21 rfl (lv_at hl 0 rfl) ?_
  refine lv_iconst (v := 0) hx hb dX3_ask_22 (by decide) ?_
  refine pf S G hP hS cb 4 (x := 0) tyX3 tyX3_ok nmX3 (isC_lt hcb) (oC hcb) rfl inX3 (by decide) fl_RX3_28 rfl rfl rfl rfl (Nat.le_of_ble_eq_true rfl) (oC hcb) dX3_ask_23 (fun H locs hP hS => ?_)
  refine lv_aload_n hx hb dX3_ask_26 rfl (lv_at hl 0 rfl) ?_
  refine lv_iconst (v := 0) hx hb dX3_ask_27 (by decide) ?_
  refine pf S G hP hS cb 5 (x := 0) tyX3 tyX3_ok nmX3 (isC_lt hcb) (oC hcb) rfl inX3 (by decide) fl_RX3_31 rfl rfl rfl rfl (Nat.le_of_ble_eq_true rfl) (oC hcb) dX3_ask_28 (fun H locs hP hS => ?_)
  refine lv_aload_n hx hb dX3_ask_31 rfl (lv_at hl 0 rfl) ?_
  refine lv_iconst (v := 0) hx hb dX3_ask_32 (by decide) ?_
  refine pf S G hP hS cb 6 (x := 0) tyX3 tyX3_ok nmX3 (isC_lt hcb) (oC hcb) rfl inX3 (by decide) fl_RX3_34 rfl rfl rfl rfl (Nat.le_of_ble_eq_true rfl) (oC hcb) dX3_ask_33 (fun H locs hP hS => ?_)
  exact eV S hr hlocks hP hS dX3_ask_36 (by first | rfl | (simp []; done) | (simp only [↓reduceIte, if_true, if_false]; done) | grind [])

theorem ok_yX3_refuse : COK RX3 yX3_refuse cX3_refuse 3 none 2 := ⟨im_yX3_refuse, se_RX3_yX3_refuse, in_RX3, co_yX3_refuse, ⟨rfl, by decide +kernel, by decide +kernel, by decide +kernel⟩, by decide⟩
set_option maxHeartbeats 1000000 in
set_option maxRecDepth 100000 in
theorem c_X3_refuse (l : Launch) {D : va_G} {ct : Nat → ClassId} {ek ad : Nat → Nat} {N0 : Nat} {X : va_W} {F : State → Prop} (σ : Mem) (cb : Nat) (hcb : isC cb) (x : Int32) (y : Int32) : MV l yX3_refuse cX3_refuse 3 0 D ct ek ad N0 X F [.ref (ad cb), .int x, .int y] σ (fun τ => τ = sg (sg σ cb 5 x) cb 6 y) := by
  refine ms0 (own := RX3) (by decide) rfl (Nat.le_of_ble_eq_true rfl) (fun p e s m args below meth c S hr hlocks hnm G hP hS ls hl => ?_)
  have hx := S.1
  have hb := S.2.1
  replace hl : lv_has ls 3 [(0, .ref (ad cb)), (1, .int x), (2, .int y)] := hl
  refine lv_aload_n hx hb dX3_refuse_0 rfl (lv_at hl 0 rfl) ?_
  refine lv_iload_n hx hb dX3_refuse_1 rfl (lv_at hl 1 rfl) ?_
  refine pf S G hP hS cb 5 (x := x) tyX3 tyX3_ok nmX3 (isC_lt hcb) (oC hcb) rfl inX3 (by decide) fl_RX3_31 rfl rfl rfl rfl (Nat.le_of_ble_eq_true rfl) (oC hcb) dX3_refuse_2 (fun H locs hP hS => ?_)
  refine lv_aload_n hx hb dX3_refuse_5 rfl (lv_at hl 0 rfl) ?_
  refine lv_iload_n hx hb dX3_refuse_6 rfl (lv_at hl 2 rfl) ?_
  refine pf S G hP hS cb 6 (x := y) tyX3 tyX3_ok nmX3 (isC_lt hcb) (oC hcb) rfl inX3 (by decide) fl_RX3_34 rfl rfl rfl rfl (Nat.le_of_ble_eq_true rfl) (oC hcb) dX3_refuse_7 (fun H locs hP hS => ?_)
  exact eV S hr hlocks hP hS dX3_refuse_10 (by first | rfl | (simp []; done) | (simp only [↓reduceIte, if_true, if_false]; done) | grind [])

theorem ok_yX3_isRefused : COK RX3 yX3_isRefused cX3_isRefused 1 (some .boolean) 0 := ⟨im_yX3_isRefused, se_RX3_yX3_isRefused, in_RX3, co_yX3_isRefused, ⟨rfl, by decide +kernel, by decide +kernel, by decide +kernel⟩, by decide⟩
set_option maxHeartbeats 1000000 in
set_option maxRecDepth 100000 in
theorem c_X3_isRefused (l : Launch) {D : va_G} {ct : Nat → ClassId} {ek ad : Nat → Nat} {N0 : Nat} {X : va_W} {F : State → Prop} (σ : Mem) (cb : Nat) (hcb : isC cb) : MI l yX3_isRefused cX3_isRefused 1 (some .boolean) 0 D ct ek ad N0 X F [.ref (ad cb)] σ (fun r τ => r = (if σ cb 5 = 0 then 0 else 1) ∧ τ = σ) := by
  refine ms0 (own := RX3) (by decide) rfl (Nat.le_of_ble_eq_true rfl) (fun p e s m args below meth c S hr hlocks hnm G hP hS ls hl => ?_)
  have hx := S.1
  have hb := S.2.1
  replace hl : lv_has ls 1 [(0, .ref (ad cb))] := hl
  refine lv_aload_n hx hb dX3_isRefused_0 rfl (lv_at hl 0 rfl) ?_
  refine gf S G hP cb 5 (isC_lt hcb) (oC hcb) rfl inX3 (by decide) fl_RX3_31 rfl rfl dX3_isRefused_1 ?_
  refine lv_if_eq (tgt := 11) hx hb dX3_isRefused_4 (by decide) (fun c_4 => ?_) (fun c_4 => ?_)
  · refine lv_iconst (v := 0) hx hb dX3_isRefused_11 (by decide) ?_
    exact eZ S hr hlocks hP hS (by decide) dX3_isRefused_12 (by first | exact ⟨rfl, rfl⟩ | (refine ⟨?_, rfl⟩; simp [c_4]; done) | (simp [c_4]; done) | (simp only [c_4, ↓reduceIte, if_true, if_false, and_self, true_and]; done) | grind [])
  · refine lv_iconst (v := 1) hx hb dX3_isRefused_7 (by decide) ?_
    refine lv_goto (tgt := 12) hx hb dX3_isRefused_8 (by decide) ?_
    exact eZ S hr hlocks hP hS (by decide) dX3_isRefused_12 (by first | exact ⟨rfl, rfl⟩ | (refine ⟨?_, rfl⟩; simp [c_4]; done) | (simp [c_4]; done) | (simp only [c_4, ↓reduceIte, if_true, if_false, and_self, true_and]; done) | grind [])

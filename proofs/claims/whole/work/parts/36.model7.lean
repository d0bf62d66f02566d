/-! the reference: camps, lines, accounts, what breaks (laid by wip/whole/spec_model7.py) -/
theorem ok_yJ6_numberOfTrailingZeros_0f7a4 : COKs RJ6 yJ6_numberOfTrailingZeros_0f7a4 cJ6_numberOfTrailingZeros_0f7a4 2 (some .int) 1 := ⟨sm_yJ6_numberOfTrailingZeros_0f7a4, in_RJ6, co_yJ6_numberOfTrailingZeros_0f7a4, ⟨rfl, by decide +kernel, by decide +kernel, by decide +kernel⟩, by decide⟩
set_option maxHeartbeats 1000000 in
set_option maxRecDepth 100000 in
theorem c_J6_numberOfTrailingZeros_0f7a4 (l : Launch) {D : va_G} {ct : Nat → ClassId} {ek ad : Nat → Nat} {N0 : Nat} {X : va_W} {F : State → Prop} (σ : Mem) (x : Int32) (a : Nat) (ha : x = nI a) (ha6 : a < 64) : MI l yJ6_numberOfTrailingZeros_0f7a4 cJ6_numberOfTrailingZeros_0f7a4 2 (some .int) 0 D ct ek ad N0 X F [.int x] σ (fun r τ => r = ntV x ∧ τ = σ) := by
  refine ms0 (own := RJ6) (by decide) rfl (Nat.le_of_ble_eq_true rfl) (fun p e s m args below meth c S hr hlocks hnm G hP hS ls hl => ?_)
  have hx := S.1
  have hb := S.2.1
  replace hl : lv_has ls 2 [(0, .int x)] := hl
  have hj : ntJ x ≤ 65536 ∧ ntJ x ≤ 256 := by rw [ha]; exact nt_le a ha6
  refine lv_iload_n hx hb dJ6_numberOfTrailingZeros_0f7a4_0 rfl (lv_at hl 0 rfl) ?_
  refine lv_iconst (v := (-1)) hx hb dJ6_numberOfTrailingZeros_0f7a4_1 (by decide) ?_
  refine lv_ixor hx hb dJ6_numberOfTrailingZeros_0f7a4_2 ?_
  refine lv_iload_n hx hb dJ6_numberOfTrailingZeros_0f7a4_3 rfl (lv_at hl 0 rfl) ?_
  refine lv_iconst (v := 1) hx hb dJ6_numberOfTrailingZeros_0f7a4_4 (by decide) ?_
  refine lv_isub hx hb dJ6_numberOfTrailingZeros_0f7a4_5 ?_
  refine lv_iand hx hb dJ6_numberOfTrailingZeros_0f7a4_6 ?_
  refine lv_tope (y := ntJ x) rfl ?_
  refine lv_istore_n (lv' := [(0, .int (ntJ x))]) hx hb dJ6_numberOfTrailingZeros_0f7a4_7 rfl hl (by decide) rfl (fun ls hl => ?_)
  refine lv_iload_n hx hb dJ6_numberOfTrailingZeros_0f7a4_8 rfl (lv_at hl 0 rfl) ?_
  refine lv_if_gt (tgt := 17) hx hb dJ6_numberOfTrailingZeros_0f7a4_9 (by decide) (fun c_9 => ?_) (fun c_9 => ?_)
  · refine lv_iconst (v := 1) hx hb dJ6_numberOfTrailingZeros_0f7a4_17 (by decide) ?_
    refine lv_istore_n (lv' := [(1, .int 1), (0, .int (ntJ x))]) hx hb dJ6_numberOfTrailingZeros_0f7a4_18 rfl hl (by decide) rfl (fun ls hl => ?_)
    refine lv_iload_n hx hb dJ6_numberOfTrailingZeros_0f7a4_19 rfl (lv_at hl 1 rfl) ?_
    refine lv_ldcw (own := RJ6) (v := 65536) hx hb S.2.2.2.1 (S.2.2.2.2 _ kc_RJ6_264) dJ6_numberOfTrailingZeros_0f7a4_20 ?_
    refine lv_icmp_le (tgt := 34) hx hb dJ6_numberOfTrailingZeros_0f7a4_23 (by decide) (fun c_23 => ?_) (fun c_23 => absurd hj.1 c_23)
    refine lv_iload_n hx hb dJ6_numberOfTrailingZeros_0f7a4_34 rfl (lv_at hl 1 rfl) ?_
    refine lv_sipush (v := 256) hx hb dJ6_numberOfTrailingZeros_0f7a4_35 (by decide) ?_
    refine lv_icmp_le (tgt := 49) hx hb dJ6_numberOfTrailingZeros_0f7a4_38 (by decide) (fun c_38 => ?_) (fun c_38 => absurd hj.2 c_38)
    refine lv_iload_n hx hb dJ6_numberOfTrailingZeros_0f7a4_49 rfl (lv_at hl 1 rfl) ?_
    refine lv_bipush (v := 16) hx hb dJ6_numberOfTrailingZeros_0f7a4_50 (by decide) ?_
    refine lv_icmp_le (tgt := 62) hx hb dJ6_numberOfTrailingZeros_0f7a4_52 (by decide) (fun c_52 => ?_) (fun c_52 => ?_)
    · refine lv_iload_n hx hb dJ6_numberOfTrailingZeros_0f7a4_62 rfl (lv_at hl 1 rfl) ?_
      refine lv_iconst (v := 4) hx hb dJ6_numberOfTrailingZeros_0f7a4_63 (by decide) ?_
      refine lv_icmp_le (tgt := 74) hx hb dJ6_numberOfTrailingZeros_0f7a4_64 (by decide) (fun c_64 => ?_) (fun c_64 => ?_)
      · refine lv_iload_n hx hb dJ6_numberOfTrailingZeros_0f7a4_74 rfl (lv_at hl 0 rfl) ?_
        refine lv_iload_n hx hb dJ6_numberOfTrailingZeros_0f7a4_75 rfl (lv_at hl 1 rfl) ?_
        refine lv_iconst (v := 1) hx hb dJ6_numberOfTrailingZeros_0f7a4_76 (by decide) ?_
        refine lv_iushr (v := ((ntJ x).toUInt32 >>> ((1 : Int32).toUInt32 &&& Int32.toUInt32 31)).toInt32) hx hb dJ6_numberOfTrailingZeros_0f7a4_77 rfl ?_
        refine lv_tope (y := ush (ntJ x) 1) rfl ?_
        refine lv_iadd hx hb dJ6_numberOfTrailingZeros_0f7a4_78 ?_
        exact eI S hr hlocks hP hS dJ6_numberOfTrailingZeros_0f7a4_79 (by first | (refine ⟨?_, ?_⟩ <;> simp only [ntV, c_9, c_23, c_38, c_52, c_64, ↓reduceIte, if_true, if_false, eq_self]; done) | (refine ⟨?_, rfl⟩; simp only [ntV, c_9, c_23, c_38, c_52, c_64, ↓reduceIte, if_true, if_false, eq_self]; done) | exact ⟨rfl, rfl⟩ | (refine ⟨?_, rfl⟩; simp [ntV, c_9, c_23, c_38, c_52, c_64]; done) | (simp [ntV, c_9, c_23, c_38, c_52, c_64]; done) | grind [ntV])
      · refine lv_iinc (v := 3) (lv' := [(1, .int 3), (0, .int (ntJ x))]) hx hb dJ6_numberOfTrailingZeros_0f7a4_67 hl (k := 0) rfl (by decide) (by decide) rfl (fun ls hl => ?_)
        refine lv_iload_n hx hb dJ6_numberOfTrailingZeros_0f7a4_70 rfl (lv_at hl 1 rfl) ?_
        refine lv_iconst (v := 2) hx hb dJ6_numberOfTrailingZeros_0f7a4_71 (by decide) ?_
        refine lv_iushr (v := ((ntJ x).toUInt32 >>> ((2 : Int32).toUInt32 &&& Int32.toUInt32 31)).toInt32) hx hb dJ6_numberOfTrailingZeros_0f7a4_72 rfl ?_
        refine lv_tope (y := ush (ntJ x) 2) rfl ?_
        refine lv_istore_n (lv' := [(0, .int (ush (ntJ x) 2)), (1, .int 3)]) hx hb dJ6_numberOfTrailingZeros_0f7a4_73 rfl hl (by decide) rfl (fun ls hl => ?_)
        refine lv_iload_n hx hb dJ6_numberOfTrailingZeros_0f7a4_74 rfl (lv_at hl 1 rfl) ?_
        refine lv_iload_n hx hb dJ6_numberOfTrailingZeros_0f7a4_75 rfl (lv_at hl 0 rfl) ?_
        refine lv_iconst (v := 1) hx hb dJ6_numberOfTrailingZeros_0f7a4_76 (by decide) ?_
        refine lv_iushr (v := ((ush (ntJ x) 2).toUInt32 >>> ((1 : Int32).toUInt32 &&& Int32.toUInt32 31)).toInt32) hx hb dJ6_numberOfTrailingZeros_0f7a4_77 rfl ?_
        refine lv_tope (y := ush (ush (ntJ x) 2) 1) rfl ?_
        refine lv_iadd hx hb dJ6_numberOfTrailingZeros_0f7a4_78 ?_
        exact eI S hr hlocks hP hS dJ6_numberOfTrailingZeros_0f7a4_79 (by first | (refine ⟨?_, ?_⟩ <;> simp only [ntV, c_9, c_23, c_38, c_52, c_64, ↓reduceIte, if_true, if_false, eq_self]; done) | (refine ⟨?_, rfl⟩; simp only [ntV, c_9, c_23, c_38, c_52, c_64, ↓reduceIte, if_true, if_false, eq_self]; done) | exact ⟨rfl, rfl⟩ | (refine ⟨?_, rfl⟩; simp [ntV, c_9, c_23, c_38, c_52, c_64]; done) | (simp [ntV, c_9, c_23, c_38, c_52, c_64]; done) | grind [ntV])
    · refine lv_iinc (v := 5) (lv' := [(1, .int 5), (0, .int (ntJ x))]) hx hb dJ6_numberOfTrailingZeros_0f7a4_55 hl (k := 0) rfl (by decide) (by decide) rfl (fun ls hl => ?_)
      refine lv_iload_n hx hb dJ6_numberOfTrailingZeros_0f7a4_58 rfl (lv_at hl 1 rfl) ?_
      refine lv_iconst (v := 4) hx hb dJ6_numberOfTrailingZeros_0f7a4_59 (by decide) ?_
      refine lv_iushr (v := ((ntJ x).toUInt32 >>> ((4 : Int32).toUInt32 &&& Int32.toUInt32 31)).toInt32) hx hb dJ6_numberOfTrailingZeros_0f7a4_60 rfl ?_
      refine lv_tope (y := ush (ntJ x) 4) rfl ?_
      refine lv_istore_n (lv' := [(0, .int (ush (ntJ x) 4)), (1, .int 5)]) hx hb dJ6_numberOfTrailingZeros_0f7a4_61 rfl hl (by decide) rfl (fun ls hl => ?_)
      refine lv_iload_n hx hb dJ6_numberOfTrailingZeros_0f7a4_62 rfl (lv_at hl 0 rfl) ?_
      refine lv_iconst (v := 4) hx hb dJ6_numberOfTrailingZeros_0f7a4_63 (by decide) ?_
      refine lv_icmp_le (tgt := 74) hx hb dJ6_numberOfTrailingZeros_0f7a4_64 (by decide) (fun c_64 => ?_) (fun c_64 => ?_)
      · refine lv_iload_n hx hb dJ6_numberOfTrailingZeros_0f7a4_74 rfl (lv_at hl 1 rfl) ?_
        refine lv_iload_n hx hb dJ6_numberOfTrailingZeros_0f7a4_75 rfl (lv_at hl 0 rfl) ?_
        refine lv_iconst (v := 1) hx hb dJ6_numberOfTrailingZeros_0f7a4_76 (by decide) ?_
        refine lv_iushr (v := ((ush (ntJ x) 4).toUInt32 >>> ((1 : Int32).toUInt32 &&& Int32.toUInt32 31)).toInt32) hx hb dJ6_numberOfTrailingZeros_0f7a4_77 rfl ?_
        refine lv_tope (y := ush (ush (ntJ x) 4) 1) rfl ?_
        refine lv_iadd hx hb dJ6_numberOfTrailingZeros_0f7a4_78 ?_
        exact eI S hr hlocks hP hS dJ6_numberOfTrailingZeros_0f7a4_79 (by first | (refine ⟨?_, ?_⟩ <;> simp only [ntV, c_9, c_23, c_38, c_52, c_64, ↓reduceIte, if_true, if_false, eq_self]; done) | (refine ⟨?_, rfl⟩; simp only [ntV, c_9, c_23, c_38, c_52, c_64, ↓reduceIte, if_true, if_false, eq_self]; done) | exact ⟨rfl, rfl⟩ | (refine ⟨?_, rfl⟩; simp [ntV, c_9, c_23, c_38, c_52, c_64]; done) | (simp [ntV, c_9, c_23, c_38, c_52, c_64]; done) | grind [ntV])
      · refine lv_iinc (v := 7) (lv' := [(1, .int 7), (0, .int (ush (ntJ x) 4))]) hx hb dJ6_numberOfTrailingZeros_0f7a4_67 hl (k := 1) rfl (by decide) (by decide) rfl (fun ls hl => ?_)
        refine lv_iload_n hx hb dJ6_numberOfTrailingZeros_0f7a4_70 rfl (lv_at hl 1 rfl) ?_
        refine lv_iconst (v := 2) hx hb dJ6_numberOfTrailingZeros_0f7a4_71 (by decide) ?_
        refine lv_iushr (v := ((ush (ntJ x) 4).toUInt32 >>> ((2 : Int32).toUInt32 &&& Int32.toUInt32 31)).toInt32) hx hb dJ6_numberOfTrailingZeros_0f7a4_72 rfl ?_
        refine lv_tope (y := ush (ush (ntJ x) 4) 2) rfl ?_
        refine lv_istore_n (lv' := [(0, .int (ush (ush (ntJ x) 4) 2)), (1, .int 7)]) hx hb dJ6_numberOfTrailingZeros_0f7a4_73 rfl hl (by decide) rfl (fun ls hl => ?_)
        refine lv_iload_n hx hb dJ6_numberOfTrailingZeros_0f7a4_74 rfl (lv_at hl 1 rfl) ?_
        refine lv_iload_n hx hb dJ6_numberOfTrailingZeros_0f7a4_75 rfl (lv_at hl 0 rfl) ?_
        refine lv_iconst (v := 1) hx hb dJ6_numberOfTrailingZeros_0f7a4_76 (by decide) ?_
        refine lv_iushr (v := ((ush (ush (ntJ x) 4) 2).toUInt32 >>> ((1 : Int32).toUInt32 &&& Int32.toUInt32 31)).toInt32) hx hb dJ6_numberOfTrailingZeros_0f7a4_77 rfl ?_
        refine lv_tope (y := ush (ush (ush (ntJ x) 4) 2) 1) rfl ?_
        refine lv_iadd hx hb dJ6_numberOfTrailingZeros_0f7a4_78 ?_
        exact eI S hr hlocks hP hS dJ6_numberOfTrailingZeros_0f7a4_79 (by first | (refine ⟨?_, ?_⟩ <;> simp only [ntV, c_9, c_23, c_38, c_52, c_64, ↓reduceIte, if_true, if_false, eq_self]; done) | (refine ⟨?_, rfl⟩; simp only [ntV, c_9, c_23, c_38, c_52, c_64, ↓reduceIte, if_true, if_false, eq_self]; done) | exact ⟨rfl, rfl⟩ | (refine ⟨?_, rfl⟩; simp [ntV, c_9, c_23, c_38, c_52, c_64]; done) | (simp [ntV, c_9, c_23, c_38, c_52, c_64]; done) | grind [ntV])
  · refine lv_iload_n hx hb dJ6_numberOfTrailingZeros_0f7a4_12 rfl (lv_at hl 0 rfl) ?_
    refine lv_bipush (v := 32) hx hb dJ6_numberOfTrailingZeros_0f7a4_13 (by decide) ?_
    refine lv_iand hx hb dJ6_numberOfTrailingZeros_0f7a4_15 ?_
    exact eI S hr hlocks hP hS dJ6_numberOfTrailingZeros_0f7a4_16 (by first | (refine ⟨?_, ?_⟩ <;> simp only [ntV, c_9, ↓reduceIte, if_true, if_false, eq_self]; done) | (refine ⟨?_, rfl⟩; simp only [ntV, c_9, ↓reduceIte, if_true, if_false, eq_self]; done) | exact ⟨rfl, rfl⟩ | (refine ⟨?_, rfl⟩; simp [ntV, c_9]; done) | (simp [ntV, c_9]; done) | grind [ntV])

theorem ok_yX11_camps : COK RX11 yX11_camps cX11_camps 3 (some .int) 0 := ⟨im_yX11_camps, se_RX11_yX11_camps, in_RX11, co_yX11_camps, ⟨rfl, by decide +kernel, by decide +kernel, by decide +kernel⟩, by decide⟩
set_option maxHeartbeats 1000000 in
set_option maxRecDepth 100000 in
theorem c_X11_camps (l : Launch) {D : va_G} {ct : Nat → ClassId} {ek ad : Nat → Nat} {N0 : Nat} {X : va_W} {F : State → Prop} (σ : Mem) (n : Nat) (hn : σ 277 0 = nI n) (hn6 : n ≤ 6) (hcm : ∀ p, p < n → ∃ a, a < 64 ∧ cmR (σ 277) n p = nI a) : MI l yX11_camps cX11_camps 3 (some .int) 3 D ct ek ad N0 X F [.ref (ad 276)] σ (fun r τ => r = cmsV (σ 277) n n ∧ τ = thM σ 0) := by
  refine ms0 (own := RX11) (by decide) rfl (Nat.le_of_ble_eq_true rfl) (fun p e s m args below meth c S hr hlocks hnm G hP hS ls hl => ?_)
  have hx := S.1
  have hb := S.2.1
  replace hl : lv_has ls 3 [(0, .ref (ad 276))] := hl
  refine lv_aload_n hx hb dX11_camps_0 rfl (lv_at hl 0 rfl) ?_
  refine lv_iconst (v := 0) hx hb dX11_camps_1 (by decide) ?_
  refine pf S G hP hS 276 20 (x := 0) tyX11 tyX11_ok nmX11 (by decide) oM rfl inX11 (by decide) fl_RX11_42 rfl rfl rfl rfl (Nat.le_of_ble_eq_true rfl) oM dX11_camps_2 (fun H locs hP hS => ?_)
  refine lv_iconst (v := 0) hx hb dX11_camps_5 (by decide) ?_
  refine lv_istore_n (lv' := [(1, .int 0), (0, .ref (ad 276))]) hx hb dX11_camps_6 rfl hl (by decide) rfl (fun ls hl => ?_)
  refine lv_iconst (v := 0) hx hb dX11_camps_7 (by decide) ?_
  refine lv_istore_n (lv' := [(2, .int 0), (1, .int 0), (0, .ref (ad 276))]) hx hb dX11_camps_8 rfl hl (by decide) rfl (fun ls hl => ?_)
  have key_9 : ∀ (d k : Nat), k + d = n → ∀ (H : Heap) (locs : List Loc) (ls : Array Slot), wP D ct ek ad X (sg σ 276 20 0) H → va_S (fr N0) s.heap H locs → lv_has ls 3 [(2, .int (nI k)), (1, .int (cmsV (σ 277) n k)), (0, .ref (ad 276))] → W p l e (rmd 3 0 0) s m args below meth c H locs 0 0 (MQ below (wQi D ct ek ad N0 X (fun r τ => r = cmsV (σ 277) n n ∧ τ = thM σ 0)) args s 0 0 (fr N0)) (F0 m 9 ls []) := by
    intro d
    induction d with
    | zero =>
      intro k9 hk
      obtain rfl : n = k9 := by omega
      intro  H locs ls hP hS hl
      refine lv_iload_n hx hb dX11_camps_9 rfl (lv_at hl 0 rfl) ?_
      refine lv_aload_n hx hb dX11_camps_10 rfl (lv_at hl 2 rfl) ?_
      refine gf S G hP 276 0 (by decide) oM rfl inX11 (by decide) fl_RX11_9 rfl rfl dX11_camps_11 ?_
      refine lv_iconst (v := 0) hx hb dX11_camps_14 (by decide) ?_
      refine ald S G hP 277 0 (by decide) (aM277 _) (by decide) (by omega) (by decide) dX11_camps_15 ?_
      refine lv_icmp_ge (tgt := 48) hx hb dX11_camps_16 (by decide) (fun c_16 => ?_) (fun c_16 => absurd (by rw [(show (sg σ 276 20 0) 277 0 = nI n from by rw [th_r]; exact hn)]; exact nI_le (by omega) (by omega)) c_16)
      refine lv_iload_n hx hb dX11_camps_48 rfl (lv_at hl 1 rfl) ?_
      exact eI S hr hlocks hP hS dX11_camps_49 (by first | (refine ⟨?_, ?_⟩ <;> simp only [thM, c_16, ↓reduceIte, if_true, if_false, eq_self]; done) | (refine ⟨?_, rfl⟩; simp only [thM, c_16, ↓reduceIte, if_true, if_false, eq_self]; done) | exact ⟨rfl, rfl⟩ | (refine ⟨?_, rfl⟩; simp [thM, c_16]; done) | (simp [thM, c_16]; done) | grind [thM])
    | succ d ih =>
      intro k hk  H locs ls hP hS hl
      have hkn : k < n := by omega
      obtain ⟨a9, ha9, hae⟩ := hcm k (by omega)
      refine lv_iload_n hx hb dX11_camps_9 rfl (lv_at hl 0 rfl) ?_
      refine lv_aload_n hx hb dX11_camps_10 rfl (lv_at hl 2 rfl) ?_
      refine gf S G hP 276 0 (by decide) oM rfl inX11 (by decide) fl_RX11_9 rfl rfl dX11_camps_11 ?_
      refine lv_iconst (v := 0) hx hb dX11_camps_14 (by decide) ?_
      refine ald S G hP 277 0 (by decide) (aM277 _) (by decide) (by omega) (by decide) dX11_camps_15 ?_
      refine lv_icmp_ge (tgt := 48) hx hb dX11_camps_16 (by decide) (fun c_16 => absurd c_16 (by rw [(show (sg σ 276 20 0) 277 0 = nI n from by rw [th_r]; exact hn)]; exact nI_ge (by omega) (by omega))) (fun c_16 => ?_)
      refine lv_aload_n hx hb dX11_camps_19 rfl (lv_at hl 2 rfl) ?_
      refine lv_iload_n hx hb dX11_camps_20 rfl (lv_at hl 0 rfl) ?_
      refine cVie (As := [.int (nI k)]) S G 276 (c_X11_side l (D := D) (ct := ct) (ek := ek) (ad := ad) (N0 := N0) (X := X) (F := F) (sg σ 276 20 0) k (by omega)) ok_yX11_side ml_RX11_173 (by decide) oM rfl hP hS hl.1 rfl (by decide) rfl rfl (Nat.le_of_ble_eq_true rfl) ⟨Nat.zero_le _, Nat.zero_le _⟩ dX11_camps_21 (fun H locs hP hS => ?_)
      refine lv_tope (y := sdR (σ 277) k) (by rw [th_r]) ?_
      refine lv_if_eq (tgt := 42) hx hb dX11_camps_24 (by decide) (fun c_24 => ?_) (fun c_24 => ?_)
      · refine lv_iinc (v := nI (k + 1)) (lv' := [(2, .int (nI (k + 1))), (1, .int (cmsV (σ 277) n k)), (0, .ref (ad 276))]) hx hb dX11_camps_42 hl (k := 0) rfl (nI_inc _) (by decide) rfl (fun ls hl => ?_)
        refine lv_goto (tgt := 9) hx hb dX11_camps_45 (by decide) ?_
        exact ih (k + 1) (by omega)  _ _ _ hP hS (lv_v (lv_sub (l' := [(2, .int (nI (k + 1))), (1, .int (cmsV (σ 277) n k)), (0, .ref (ad 276))]) hl [0, 1, 2] rfl) (by rw [cmsV_s, if_pos c_24]))
      · refine lv_aload_n hx hb dX11_camps_27 rfl (lv_at hl 2 rfl) ?_
        refine lv_iload_n hx hb dX11_camps_28 rfl (lv_at hl 0 rfl) ?_
        refine cVie (As := [.int (nI k)]) S G 276 (c_X11_campOf l (D := D) (ct := ct) (ek := ek) (ad := ad) (N0 := N0) (X := X) (F := F) (sg σ 276 20 0) k (by omega) n (by first | assumption | omega | (simp [sg_at]; assumption) | (simp [sg_at]; done)) (by omega)) ok_yX11_campOf ml_RX11_188 (by decide) oM rfl hP hS hl.1 rfl (by decide) rfl rfl (Nat.le_of_ble_eq_true rfl) ⟨Nat.zero_le _, Nat.zero_le _⟩ dX11_camps_29 (fun H locs hP hS => ?_)
        refine lv_tope (y := cmR (σ 277) n k) (by rw [th_r]) ?_
        refine cSie (As := [.int (cmR (σ 277) n k)]) S G (c_J6_numberOfTrailingZeros_0f7a4 l (D := D) (ct := ct) (ek := ek) (ad := ad) (N0 := N0) (X := X) (F := F) (sg σ 276 20 0) (cmR (σ 277) n k) a9 hae ha9) ok_yJ6_numberOfTrailingZeros_0f7a4 ml_RX11_191 hP hS hl.1 rfl (by decide) rfl rfl (Nat.le_of_ble_eq_true rfl) ⟨Nat.zero_le _, Nat.zero_le _⟩ dX11_camps_32 (fun H locs hP hS => ?_)
        refine lv_iload_n hx hb dX11_camps_35 rfl (lv_at hl 0 rfl) ?_
        refine lv_icmp_ne (tgt := 42) hx hb dX11_camps_36 (by decide) (fun c_36 => ?_) (fun c_36 => ?_)
        · refine lv_iinc (v := nI (k + 1)) (lv' := [(2, .int (nI (k + 1))), (1, .int (cmsV (σ 277) n k)), (0, .ref (ad 276))]) hx hb dX11_camps_42 hl (k := 0) rfl (nI_inc _) (by decide) rfl (fun ls hl => ?_)
          refine lv_goto (tgt := 9) hx hb dX11_camps_45 (by decide) ?_
          exact ih (k + 1) (by omega)  _ _ _ hP hS (lv_v (lv_sub (l' := [(2, .int (nI (k + 1))), (1, .int (cmsV (σ 277) n k)), (0, .ref (ad 276))]) hl [0, 1, 2] rfl) (by rw [cmsV_s, if_neg c_24, if_neg c_36]))
        · refine lv_iinc (v := (cmsV (σ 277) n k) + 1) (lv' := [(1, .int ((cmsV (σ 277) n k) + 1)), (2, .int (nI k)), (0, .ref (ad 276))]) hx hb dX11_camps_39 hl (k := 1) rfl rfl (by decide) rfl (fun ls hl => ?_)
          refine lv_iinc (v := nI (k + 1)) (lv' := [(2, .int (nI (k + 1))), (1, .int ((cmsV (σ 277) n k) + 1)), (0, .ref (ad 276))]) hx hb dX11_camps_42 hl (k := 1) rfl (nI_inc _) (by decide) rfl (fun ls hl => ?_)
          refine lv_goto (tgt := 9) hx hb dX11_camps_45 (by decide) ?_
          exact ih (k + 1) (by omega)  _ _ _ hP hS (lv_v (lv_sub (l' := [(2, .int (nI (k + 1))), (1, .int ((cmsV (σ 277) n k) + 1)), (0, .ref (ad 276))]) hl [0, 1, 2] rfl) (by rw [cmsV_s, if_neg c_24, if_pos c_36]))
  exact key_9 n 0 (by omega)  _ _ _ hP hS (lv_v (lv_sub (l' := [(2, .int 0), (1, .int 0), (0, .ref (ad 276))]) hl [0, 1, 2] rfl) rfl)

theorem ok_yX11_campsAgain : COK RX11 yX11_campsAgain cX11_campsAgain 1 (some .int) 0 := ⟨im_yX11_campsAgain, se_RX11_yX11_campsAgain, in_RX11, co_yX11_campsAgain, ⟨rfl, by decide +kernel, by decide +kernel, by decide +kernel⟩, by decide⟩
set_option maxHeartbeats 1000000 in
set_option maxRecDepth 100000 in
theorem c_X11_campsAgain (l : Launch) {D : va_G} {ct : Nat → ClassId} {ek ad : Nat → Nat} {N0 : Nat} {X : va_W} {F : State → Prop} (σ : Mem) (n : Nat) (hn : σ 277 0 = nI n) (hn6 : n ≤ 6) (hcm : ∀ p, p < n → ∃ a, a < 64 ∧ cmR (σ 277) n p = nI a) : MI l yX11_campsAgain cX11_campsAgain 1 (some .int) 4 D ct ek ad N0 X F [.ref (ad 276)] σ (fun r τ => r = cmsV (σ 277) n n ∧ τ = thM σ 0) := by
  refine ms0 (own := RX11) (by decide) rfl (Nat.le_of_ble_eq_true rfl) (fun p e s m args below meth c S hr hlocks hnm G hP hS ls hl => ?_)
  have hx := S.1
  have hb := S.2.1
  replace hl : lv_has ls 1 [(0, .ref (ad 276))] := hl
  refine lv_aload_n hx hb dX11_campsAgain_0 rfl (lv_at hl 0 rfl) ?_
  refine cVie (As := []) S G 276 (c_X11_camps l (D := D) (ct := ct) (ek := ek) (ad := ad) (N0 := N0) (X := X) (F := F) σ n (by first | assumption | omega | (simp [sg_at]; assumption) | (simp [sg_at]; done)) (by omega) (by first | assumption | omega | (simp [sg_at]; assumption) | (simp [sg_at]; done))) ok_yX11_camps ml_RX11_194 (by decide) oM rfl hP hS hl.1 rfl (by decide) rfl rfl (Nat.le_of_ble_eq_true rfl) ⟨Nat.zero_le _, Nat.zero_le _⟩ dX11_campsAgain_1 (fun H locs hP hS => ?_)
  exact eI S hr hlocks hP hS dX11_campsAgain_4 (by first | exact ⟨rfl, rfl⟩ | (refine ⟨?_, rfl⟩; simp []; done) | (simp []; done) | (simp only [↓reduceIte, if_true, if_false, and_self, true_and]; done) | grind [])

theorem ok_yX11_breaksIn : COK RX11 yX11_breaksIn cX11_breaksIn 9 (some .int) 1 := ⟨im_yX11_breaksIn, se_RX11_yX11_breaksIn, in_RX11, co_yX11_breaksIn, ⟨rfl, by decide +kernel, by decide +kernel, by decide +kernel⟩, by decide⟩
set_option maxHeartbeats 1000000 in
set_option maxRecDepth 100000 in
theorem c_X11_breaksIn (l : Launch) {D : va_G} {ct : Nat → ClassId} {ek ad : Nat → Nat} {N0 : Nat} {X : va_W} {F : State → Prop} (σ : Mem) (x : Int32) (n : Nat) (mb : Nat) (hR : RowOK (σ 277) n mb) : MI l yX11_breaksIn cX11_breaksIn 9 (some .int) 5 D ct ek ad N0 X F [.ref (ad 276), .int x] σ (fun r τ => r = briV σ n mb x ∧ QG τ σ (briT σ n mb x)) := by
  refine ms0 (own := RX11) (by decide) rfl (Nat.le_of_ble_eq_true rfl) (fun p e s m args below meth c S hr hlocks hnm G hP hS ls hl => ?_)
  have hx := S.1
  have hb := S.2.1
  replace hl : lv_has ls 9 [(0, .ref (ad 276)), (1, .int x)] := hl
  have hn := hR.1
  have hn6 := hR.2.1
  have hm := hR.2.2.1
  have hm6 := hR.2.2.2.1
  have hBq := hR.2.2.2.2.2.2
  refine lv_aload_n hx hb dX11_breaksIn_0 rfl (lv_at hl 0 rfl) ?_
  refine lv_iconst (v := 0) hx hb dX11_breaksIn_1 (by decide) ?_
  refine pf S G hP hS 276 20 (x := 0) tyX11 tyX11_ok nmX11 (by decide) oM rfl inX11 (by decide) fl_RX11_42 rfl rfl rfl rfl (Nat.le_of_ble_eq_true rfl) oM dX11_breaksIn_2 (fun H locs hP hS => ?_)
  refine lv_iload_n hx hb dX11_breaksIn_5 rfl (lv_at hl 1 rfl) ?_
  refine lv_iconst (v := 0) hx hb dX11_breaksIn_6 (by decide) ?_
  refine lv_aload_n hx hb dX11_breaksIn_7 rfl (lv_at hl 0 rfl) ?_
  refine gf S G hP 276 0 (by decide) oM rfl inX11 (by decide) fl_RX11_9 rfl rfl dX11_breaksIn_8 ?_
  refine lv_iconst (v := 1) hx hb dX11_breaksIn_11 (by decide) ?_
  refine ald S G hP 277 1 (by decide) (aM277 _) (by decide) (by omega) (by decide) dX11_breaksIn_12 ?_
  refine lv_iconst (v := 1) hx hb dX11_breaksIn_13 (by decide) ?_
  refine lv_isub hx hb dX11_breaksIn_14 ?_
  refine cSie (As := [.int x, .int 0, .int (((sg σ 276 20 0) 277 1) - 1)]) S G (c_X11_in l (D := D) (ct := ct) (ek := ek) (ad := ad) (N0 := N0) (X := X) (F := F) (sg σ 276 20 0) x 0 (((sg σ 276 20 0) 277 1) - 1)) ok_yX11_in ml_RX11_67 hP hS hl.1 rfl (by decide) rfl rfl (Nat.le_of_ble_eq_true rfl) ⟨Nat.zero_le _, Nat.zero_le _⟩ dX11_breaksIn_15 (fun H locs hP hS => ?_)
  refine lv_tope (y := mn1 σ x) (by simp [mn1, sg_at]) ?_
  refine lv_if_ne (tgt := 27) hx hb dX11_breaksIn_18 (by decide) (fun c_18 => ?_) (fun c_18 => ?_)
  · obtain ⟨h1, h1l⟩ := rngN (show ¬ rngB x 0 (σ 277 1 - 1) = 0 from c_18) hm (by omega)
    refine lv_aload_n hx hb dX11_breaksIn_27 rfl (lv_at hl 0 rfl) ?_
    refine lv_iload_n hx hb dX11_breaksIn_28 rfl (lv_at hl 1 rfl) ?_
    refine lv_tope (y := nI (tN (x))) h1 ?_
    refine lv_iconst (v := 0) hx hb dX11_breaksIn_29 (by decide) ?_
    refine cVie (As := [.int (nI (tN (x))), .int (nI 0)]) S G 276 (c_X11_beam l (D := D) (ct := ct) (ek := ek) (ad := ad) (N0 := N0) (X := X) (F := F) (sg σ 276 20 0) (tN (x)) (by omega) 0 (by omega)) ok_yX11_beam ml_RX11_79 (by decide) oM rfl hP hS hl.1 rfl (by decide) rfl rfl (Nat.le_of_ble_eq_true rfl) ⟨Nat.zero_le _, Nat.zero_le _⟩ dX11_breaksIn_30 (fun H locs hP hS => ?_)
    refine lv_tope (y := σ 277 (72 + 4 * tN x + 0)) (by rw [th_r]) ?_
    refine lv_istore_n (lv' := [(2, .int (σ 277 (72 + 4 * tN x + 0))), (0, .ref (ad 276)), (1, .int x)]) hx hb dX11_breaksIn_33 rfl hl (by decide) rfl (fun ls hl => ?_)
    refine lv_aload_n hx hb dX11_breaksIn_34 rfl (lv_at hl 1 rfl) ?_
    refine lv_iload_n hx hb dX11_breaksIn_35 rfl (lv_at hl 2 rfl) ?_
    refine lv_tope (y := nI (tN (x))) h1 ?_
    refine lv_iconst (v := 1) hx hb dX11_breaksIn_36 (by decide) ?_
    refine cVie (As := [.int (nI (tN (x))), .int (nI 1)]) S G 276 (c_X11_beam l (D := D) (ct := ct) (ek := ek) (ad := ad) (N0 := N0) (X := X) (F := F) (sg σ 276 20 0) (tN (x)) (by omega) 1 (by omega)) ok_yX11_beam ml_RX11_79 (by decide) oM rfl hP hS hl.1 rfl (by decide) rfl rfl (Nat.le_of_ble_eq_true rfl) ⟨Nat.zero_le _, Nat.zero_le _⟩ dX11_breaksIn_37 (fun H locs hP hS => ?_)
    refine lv_tope (y := σ 277 (72 + 4 * tN x + 1)) (by rw [th_r]) ?_
    refine lv_istore_n (lv' := [(3, .int (σ 277 (72 + 4 * tN x + 1))), (2, .int (σ 277 (72 + 4 * tN x + 0))), (0, .ref (ad 276)), (1, .int x)]) hx hb dX11_breaksIn_40 rfl hl (by decide) rfl (fun ls hl => ?_)
    refine lv_aload_n hx hb dX11_breaksIn_41 rfl (lv_at hl 2 rfl) ?_
    refine cVve (As := []) S G 276 (c_X11_thinks l (D := D) (ct := ct) (ek := ek) (ad := ad) (N0 := N0) (X := X) (F := F) (sg σ 276 20 0)) ok_yX11_thinks ml_RX11_182 (by decide) oM rfl hP hS hl.1 rfl (by decide) rfl rfl (Nat.le_of_ble_eq_true rfl) ⟨Nat.zero_le _, Nat.zero_le _⟩ dX11_breaksIn_42 (fun H locs hP hS => ?_)
    refine lv_iconst (v := 0) hx hb dX11_breaksIn_45 (by decide) ?_
    refine lv_istore (lv' := [(4, .int 0), (3, .int (σ 277 (72 + 4 * tN x + 1))), (2, .int (σ 277 (72 + 4 * tN x + 0))), (0, .ref (ad 276)), (1, .int x)]) hx hb dX11_breaksIn_46 hl (by decide) rfl (fun ls hl => ?_)
    refine lv_iconst (v := 0) hx hb dX11_breaksIn_48 (by decide) ?_
    refine lv_istore (lv' := [(5, .int 0), (4, .int 0), (3, .int (σ 277 (72 + 4 * tN x + 1))), (2, .int (σ 277 (72 + 4 * tN x + 0))), (0, .ref (ad 276)), (1, .int x)]) hx hb dX11_breaksIn_49 hl (by decide) rfl (fun ls hl => ?_)
    refine lv_iconst (v := 1) hx hb dX11_breaksIn_51 (by decide) ?_
    refine lv_istore (lv' := [(6, .int 1), (5, .int 0), (4, .int 0), (3, .int (σ 277 (72 + 4 * tN x + 1))), (2, .int (σ 277 (72 + 4 * tN x + 0))), (0, .ref (ad 276)), (1, .int x)]) hx hb dX11_breaksIn_52 hl (by decide) rfl (fun ls hl => ?_)
    have key_54 : ∀ (d k : Nat), k + d = 99 → ∀ (f9 : Int32), ((f9 = 0 ∧ brR (σ 277) n mb (σ 277 (72 + 4 * tN x + 0)) (σ 277 (72 + 4 * tN x + 1)) d k = brR (σ 277) n mb (σ 277 (72 + 4 * tN x + 0)) (σ 277 (72 + 4 * tN x + 1)) 99 0) ∨ (f9 = nI k ∧ 1 ≤ k ∧ k ≤ 99 ∧ brR (σ 277) n mb (σ 277 (72 + 4 * tN x + 0)) (σ 277 (72 + 4 * tN x + 1)) 99 0 = k)) → ∀ (τ : Mem), (LpG τ (sb (sg σ 276 20 0) 279 (fil (σ 277) (σ 279) 96)) (goK (σ 277) n mb k).1) → ∀ (H : Heap) (locs : List Loc) (ls : Array Slot), wP D ct ek ad X τ H → va_S (fr N0) s.heap H locs → lv_has ls 9 [(6, .int (nI (k + 1))), (5, .int (gsV (σ 277) n mb k)), (4, .int f9), (3, .int (σ 277 (72 + 4 * tN x + 1))), (2, .int (σ 277 (72 + 4 * tN x + 0))), (0, .ref (ad 276)), (1, .int x)] → W p l e (rmd 5 0 0) s m args below meth c H locs 0 0 (MQ below (wQi D ct ek ad N0 X (fun r τ => r = briV σ n mb x ∧ QG τ σ (briT σ n mb x))) args s 0 0 (fr N0)) (F0 m 54 ls []) := by
      intro d
      induction d with
      | zero =>
        intro k9 hk
        obtain rfl : 99 = k9 := by omega
        intro f9 hf9 τ hτ H locs ls hP hS hl
        refine lv_iload hx hb dX11_breaksIn_54 (lv_at hl 0 rfl) ?_
        refine lv_bipush (v := 100) hx hb dX11_breaksIn_56 (by decide) ?_
        refine lv_icmp_ge (tgt := 147) hx hb dX11_breaksIn_58 (by decide) (fun c_58 => ?_) (fun c_58 => absurd (by decide) c_58)
        refine lv_aload_n hx hb dX11_breaksIn_147 rfl (lv_at hl 5 rfl) ?_
        refine cVve (As := []) S G 276 (c_X11_forgets l (D := D) (ct := ct) (ek := ek) (ad := ad) (N0 := N0) (X := X) (F := F) τ) ok_yX11_forgets ml_RX11_185 (by decide) oM rfl hP hS hl.1 rfl (by decide) rfl rfl (Nat.le_of_ble_eq_true rfl) ⟨Nat.zero_le _, Nat.zero_le _⟩ dX11_breaksIn_148 (fun H locs hP hS => ?_)
        refine lv_iload hx hb dX11_breaksIn_151 (lv_at hl 2 rfl) ?_
        refine lv_if_eq (tgt := 161) hx hb dX11_breaksIn_153 (by decide) (fun c_153 => ?_) (fun c_153 => ?_)
        · have hv : briN σ n mb x = 0 := by
            rcases hf9 with ⟨_, h⟩ | ⟨h, _, _, _⟩
            · exact h.symm
            · rw [c_153] at h; exact absurd h.symm (nI_ne0 (by omega) (by omega))
          refine lv_aload_n hx hb dX11_breaksIn_161 rfl (lv_at hl 5 rfl) ?_
          refine lv_iconst (v := 2) hx hb dX11_breaksIn_162 (by decide) ?_
          refine cVie (As := [.int 2]) S G 276 (c_X11_raises l (D := D) (ct := ct) (ek := ek) (ad := ad) (N0 := N0) (X := X) (F := F) (sb τ 277 (fil (τ 279) (τ 277) 96)) 2) ok_yX11_raises ml_RX11_64 (by decide) oM rfl hP hS hl.1 rfl (by decide) rfl rfl (Nat.le_of_ble_eq_true rfl) ⟨Nat.zero_le _, Nat.zero_le _⟩ dX11_breaksIn_163 (fun H locs hP hS => ?_)
          refine lv_goto (tgt := 171) hx hb dX11_breaksIn_166 (by decide) ?_
          exact eI S hr hlocks hP hS dX11_breaksIn_171 (by first | exact ⟨by simp [briV, c_18], QG_1 (by simp [briT, c_18])⟩ | exact ⟨by rw [briV, if_neg c_18, hv]; rfl, QG_f2 hτ (by rw [briT, if_neg c_18, if_pos hv])⟩ | exact ⟨by rw [briV, if_neg c_18]; exact hv.1, QG_f hτ (by rw [briT, if_neg c_18, if_neg hv.2])⟩)
        · obtain ⟨j9, hj9, ej9⟩ := gsV_N (h := σ 277) (mb := mb) hn6 99
          refine lv_iload hx hb dX11_breaksIn_156 (lv_at hl 1 rfl) ?_
          refine lv_if_ge (tgt := 169) hx hb dX11_breaksIn_158 (by decide) (fun c_158 => ?_) (fun c_158 => absurd (by rw [ej9]; exact nI_pos' (by omega)) c_158)
          have hv : f9 = nI (briN σ n mb x) ∧ ¬ briN σ n mb x = 0 := by
            rcases hf9 with ⟨h, _⟩ | ⟨h, h1, _, h2⟩
            · exact absurd h c_153
            · have h3 : briN σ n mb x = _ := h2
              exact ⟨by rw [h3]; exact h, by rw [h3]; omega⟩
          refine lv_iload hx hb dX11_breaksIn_169 (lv_at hl 2 rfl) ?_
          exact eI S hr hlocks hP hS dX11_breaksIn_171 (by first | exact ⟨by simp [briV, c_18], QG_1 (by simp [briT, c_18])⟩ | exact ⟨by rw [briV, if_neg c_18, hv]; rfl, QG_f2 hτ (by rw [briT, if_neg c_18, if_pos hv])⟩ | exact ⟨by rw [briV, if_neg c_18]; exact hv.1, QG_f hτ (by rw [briT, if_neg c_18, if_neg hv.2])⟩)
      | succ d ih =>
        intro k hk f9 hf9 τ hτ H locs ls hP hS hl
        have hkn : k < 99 := by omega
        refine lv_iload hx hb dX11_breaksIn_54 (lv_at hl 0 rfl) ?_
        refine lv_bipush (v := 100) hx hb dX11_breaksIn_56 (by decide) ?_
        refine lv_icmp_ge (tgt := 147) hx hb dX11_breaksIn_58 (by decide) (fun c_58 => absurd c_58 (nI_ge (b := 100) (by omega) (by omega))) (fun c_58 => ?_)
        refine lv_iload hx hb dX11_breaksIn_61 (lv_at hl 2 rfl) ?_
        refine lv_if_ne (tgt := 147) hx hb dX11_breaksIn_63 (by decide) (fun c_63 => ?_) (fun c_63 => ?_)
        · refine lv_aload_n hx hb dX11_breaksIn_147 rfl (lv_at hl 5 rfl) ?_
          refine cVve (As := []) S G 276 (c_X11_forgets l (D := D) (ct := ct) (ek := ek) (ad := ad) (N0 := N0) (X := X) (F := F) τ) ok_yX11_forgets ml_RX11_185 (by decide) oM rfl hP hS hl.1 rfl (by decide) rfl rfl (Nat.le_of_ble_eq_true rfl) ⟨Nat.zero_le _, Nat.zero_le _⟩ dX11_breaksIn_148 (fun H locs hP hS => ?_)
          refine lv_iload hx hb dX11_breaksIn_151 (lv_at hl 2 rfl) ?_
          refine lv_if_eq (tgt := 161) hx hb dX11_breaksIn_153 (by decide) (fun c_153 => absurd c_153 c_63) (fun c_153 => ?_)
          obtain ⟨j9, hj9, ej9⟩ := gsV_N (h := σ 277) (mb := mb) hn6 k
          refine lv_iload hx hb dX11_breaksIn_156 (lv_at hl 1 rfl) ?_
          refine lv_if_ge (tgt := 169) hx hb dX11_breaksIn_158 (by decide) (fun c_158 => ?_) (fun c_158 => absurd (by rw [ej9]; exact nI_pos' (by omega)) c_158)
          have hv : f9 = nI (briN σ n mb x) ∧ ¬ briN σ n mb x = 0 := by
            rcases hf9 with ⟨h, _⟩ | ⟨h, h1, _, h2⟩
            · exact absurd h c_63
            · have h3 : briN σ n mb x = _ := h2
              exact ⟨by rw [h3]; exact h, by rw [h3]; omega⟩
          refine lv_iload hx hb dX11_breaksIn_169 (lv_at hl 2 rfl) ?_
          exact eI S hr hlocks hP hS dX11_breaksIn_171 (by first | exact ⟨by simp [briV, c_18], QG_1 (by simp [briT, c_18])⟩ | exact ⟨by rw [briV, if_neg c_18, hv]; rfl, QG_f2 hτ (by rw [briT, if_neg c_18, if_pos hv])⟩ | exact ⟨by rw [briV, if_neg c_18]; exact hv.1, QG_f hτ (by rw [briT, if_neg c_18, if_neg hv.2])⟩)
        · have hbr : brR (σ 277) n mb (σ 277 (72 + 4 * tN x + 0)) (σ 277 (72 + 4 * tN x + 1)) (d + 1) k = brR (σ 277) n mb (σ 277 (72 + 4 * tN x + 0)) (σ 277 (72 + 4 * tN x + 1)) 99 0 := hf9.elim (fun h => h.2) (fun h => absurd c_63 (by rw [h.1]; exact nI_ne0 (by omega) (by omega)))
          have hRK := goK_ok hR (k + 1)
          have hmK : (goM τ n (goK (σ 277) n mb k).2) 277 1 = nI (goK (σ 277) n mb (k + 1)).2 := by rw [(LpG_go hτ).2]; exact hRK.2.2.1
          have hmK6 := hRK.2.2.2.1
          refine lv_iload hx hb dX11_breaksIn_66 (lv_at hl 1 rfl) ?_
          refine lv_aload_n hx hb dX11_breaksIn_68 rfl (lv_at hl 5 rfl) ?_
          refine cVie (As := []) S G 276 (c_X11_goesBy l (D := D) (ct := ct) (ek := ek) (ad := ad) (N0 := N0) (X := X) (F := F) τ n ((goK (σ 277) n mb k).2) (by rw [hτ.2]; exact goK_ok hR k)) ok_yX11_goesBy ml_RX11_142 (by decide) oM rfl hP hS hl.1 rfl (by decide) rfl rfl (Nat.le_of_ble_eq_true rfl) ⟨Nat.zero_le _, Nat.zero_le _⟩ dX11_breaksIn_69 (fun H locs hP hS => ?_)
          refine lv_tope (y := gmV (goK (σ 277) n mb k).1 n n) (by rw [hτ.2]) ?_
          refine lv_iadd hx hb dX11_breaksIn_72 ?_
          refine lv_istore (lv' := [(5, .int ((gsV (σ 277) n mb k) + (gmV (goK (σ 277) n mb k).1 n n))), (6, .int (nI (k + 1))), (4, .int f9), (3, .int (σ 277 (72 + 4 * tN x + 1))), (2, .int (σ 277 (72 + 4 * tN x + 0))), (0, .ref (ad 276)), (1, .int x)]) hx hb dX11_breaksIn_73 hl (by decide) rfl (fun ls hl => ?_)
          refine lv_iconst (v := 0) hx hb dX11_breaksIn_75 (by decide) ?_
          refine lv_istore (lv' := [(7, .int 0), (5, .int ((gsV (σ 277) n mb k) + (gmV (goK (σ 277) n mb k).1 n n))), (6, .int (nI (k + 1))), (4, .int f9), (3, .int (σ 277 (72 + 4 * tN x + 1))), (2, .int (σ 277 (72 + 4 * tN x + 0))), (0, .ref (ad 276)), (1, .int x)]) hx hb dX11_breaksIn_76 hl (by decide) rfl (fun ls hl => ?_)
          refine lv_iconst (v := 0) hx hb dX11_breaksIn_78 (by decide) ?_
          refine lv_istore (lv' := [(8, .int 0), (7, .int 0), (5, .int ((gsV (σ 277) n mb k) + (gmV (goK (σ 277) n mb k).1 n n))), (6, .int (nI (k + 1))), (4, .int f9), (3, .int (σ 277 (72 + 4 * tN x + 1))), (2, .int (σ 277 (72 + 4 * tN x + 0))), (0, .ref (ad 276)), (1, .int x)]) hx hb dX11_breaksIn_79 hl (by decide) rfl (fun ls hl => ?_)
          have key_81 : ∀ (d2 t : Nat), t + d2 = (goK (σ 277) n mb (k + 1)).2 → ∀ (H : Heap) (locs : List Loc) (ls : Array Slot), wP D ct ek ad X (goM τ n ((goK (σ 277) n mb k).2)) H → va_S (fr N0) s.heap H locs → lv_has ls 9 [(8, .int (nI t)), (7, .int (isR ((goK (σ 277) n mb (k + 1)).1) (σ 277 (72 + 4 * tN x + 0)) (σ 277 (72 + 4 * tN x + 1)) t)), (5, .int ((gsV (σ 277) n mb k) + (gmV (goK (σ 277) n mb k).1 n n))), (6, .int (nI (k + 1))), (4, .int f9), (3, .int (σ 277 (72 + 4 * tN x + 1))), (2, .int (σ 277 (72 + 4 * tN x + 0))), (0, .ref (ad 276)), (1, .int x)] → W p l e (rmd 5 0 0) s m args below meth c H locs 0 0 (MQ below (wQi D ct ek ad N0 X (fun r τ => r = briV σ n mb x ∧ QG τ σ (briT σ n mb x))) args s 0 0 (fr N0)) (F0 m 81 ls []) := by
            intro d2
            induction d2 with
            | zero =>
              intro k9 hk
              obtain rfl : (goK (σ 277) n mb (k + 1)).2 = k9 := by omega
              intro  H locs ls hP hS hl
              refine lv_iload hx hb dX11_breaksIn_81 (lv_at hl 0 rfl) ?_
              refine lv_aload_n hx hb dX11_breaksIn_83 rfl (lv_at hl 7 rfl) ?_
              refine gf S G hP 276 0 (by decide) oM rfl inX11 (by decide) fl_RX11_9 rfl rfl dX11_breaksIn_84 ?_
              refine lv_iconst (v := 1) hx hb dX11_breaksIn_87 (by decide) ?_
              refine ald S G hP 277 1 (by decide) (aM277 _) (by decide) (by omega) (by decide) dX11_breaksIn_88 ?_
              refine lv_icmp_ge (tgt := 132) hx hb dX11_breaksIn_89 (by decide) (fun c_89 => ?_) (fun c_89 => absurd (by rw [hmK]; exact nI_le (by omega) (by omega)) c_89)
              refine lv_iload hx hb dX11_breaksIn_132 (lv_at hl 1 rfl) ?_
              refine lv_if_ne (tgt := 141) hx hb dX11_breaksIn_134 (by decide) (fun c_134 => ?_) (fun c_134 => ?_)
              · refine lv_iinc (v := nI ((k + 1) + 1)) (lv' := [(6, .int (nI ((k + 1) + 1))), (8, .int (nI ((goK (σ 277) n mb (k + 1)).2))), (7, .int (isR ((goK (σ 277) n mb (k + 1)).1) (σ 277 (72 + 4 * tN x + 0)) (σ 277 (72 + 4 * tN x + 1)) ((goK (σ 277) n mb (k + 1)).2))), (5, .int ((gsV (σ 277) n mb k) + (gmV (goK (σ 277) n mb k).1 n n))), (4, .int f9), (3, .int (σ 277 (72 + 4 * tN x + 1))), (2, .int (σ 277 (72 + 4 * tN x + 0))), (0, .ref (ad 276)), (1, .int x)]) hx hb dX11_breaksIn_141 hl (k := 3) rfl (nI_inc _) (by decide) rfl (fun ls hl => ?_)
                refine lv_goto (tgt := 54) hx hb dX11_breaksIn_144 (by decide) ?_
                exact ih (k + 1) (by omega) f9 (Or.inl ⟨c_63, by rw [← hbr]; exact (if_neg c_134).symm⟩) _ (LpG_go hτ) _ _ _ hP hS (lv_v (lv_sub (l' := [(6, .int (nI ((k + 1) + 1))), (5, .int ((gsV (σ 277) n mb k) + (gmV (goK (σ 277) n mb k).1 n n))), (4, .int f9), (3, .int (σ 277 (72 + 4 * tN x + 1))), (2, .int (σ 277 (72 + 4 * tN x + 0))), (0, .ref (ad 276)), (1, .int x)]) hl [0, 3, 4, 5, 6, 7, 8] rfl) (by rw [gsV_s]))
              · refine lv_iload hx hb dX11_breaksIn_137 (lv_at hl 3 rfl) ?_
                refine lv_istore (lv' := [(4, .int (nI (k + 1))), (8, .int (nI ((goK (σ 277) n mb (k + 1)).2))), (7, .int (isR ((goK (σ 277) n mb (k + 1)).1) (σ 277 (72 + 4 * tN x + 0)) (σ 277 (72 + 4 * tN x + 1)) ((goK (σ 277) n mb (k + 1)).2))), (5, .int ((gsV (σ 277) n mb k) + (gmV (goK (σ 277) n mb k).1 n n))), (6, .int (nI (k + 1))), (3, .int (σ 277 (72 + 4 * tN x + 1))), (2, .int (σ 277 (72 + 4 * tN x + 0))), (0, .ref (ad 276)), (1, .int x)]) hx hb dX11_breaksIn_139 hl (by decide) rfl (fun ls hl => ?_)
                refine lv_iinc (v := nI ((k + 1) + 1)) (lv' := [(6, .int (nI ((k + 1) + 1))), (4, .int (nI (k + 1))), (8, .int (nI ((goK (σ 277) n mb (k + 1)).2))), (7, .int (isR ((goK (σ 277) n mb (k + 1)).1) (σ 277 (72 + 4 * tN x + 0)) (σ 277 (72 + 4 * tN x + 1)) ((goK (σ 277) n mb (k + 1)).2))), (5, .int ((gsV (σ 277) n mb k) + (gmV (goK (σ 277) n mb k).1 n n))), (3, .int (σ 277 (72 + 4 * tN x + 1))), (2, .int (σ 277 (72 + 4 * tN x + 0))), (0, .ref (ad 276)), (1, .int x)]) hx hb dX11_breaksIn_141 hl (k := 4) rfl (nI_inc _) (by decide) rfl (fun ls hl => ?_)
                refine lv_goto (tgt := 54) hx hb dX11_breaksIn_144 (by decide) ?_
                exact ih (k + 1) (by omega) (nI (k + 1)) (Or.inr ⟨rfl, by omega, by omega, by rw [← hbr]; exact if_pos c_134⟩) _ (LpG_go hτ) _ _ _ hP hS (lv_v (lv_sub (l' := [(6, .int (nI ((k + 1) + 1))), (5, .int ((gsV (σ 277) n mb k) + (gmV (goK (σ 277) n mb k).1 n n))), (4, .int (nI (k + 1))), (3, .int (σ 277 (72 + 4 * tN x + 1))), (2, .int (σ 277 (72 + 4 * tN x + 0))), (0, .ref (ad 276)), (1, .int x)]) hl [0, 4, 1, 5, 6, 7, 8] rfl) (by rw [gsV_s]))
            | succ d2 ih =>
              intro t hk  H locs ls hP hS hl
              have htn : t < (goK (σ 277) n mb (k + 1)).2 := by omega
              refine lv_iload hx hb dX11_breaksIn_81 (lv_at hl 0 rfl) ?_
              refine lv_aload_n hx hb dX11_breaksIn_83 rfl (lv_at hl 7 rfl) ?_
              refine gf S G hP 276 0 (by decide) oM rfl inX11 (by decide) fl_RX11_9 rfl rfl dX11_breaksIn_84 ?_
              refine lv_iconst (v := 1) hx hb dX11_breaksIn_87 (by decide) ?_
              refine ald S G hP 277 1 (by decide) (aM277 _) (by decide) (by omega) (by decide) dX11_breaksIn_88 ?_
              refine lv_icmp_ge (tgt := 132) hx hb dX11_breaksIn_89 (by decide) (fun c_89 => absurd c_89 (by rw [hmK]; exact nI_ge (by omega) (by omega))) (fun c_89 => ?_)
              refine lv_iload hx hb dX11_breaksIn_92 (lv_at hl 1 rfl) ?_
              refine lv_if_ne (tgt := 119) hx hb dX11_breaksIn_94 (by decide) (fun c_94 => ?_) (fun c_94 => ?_)
              · refine lv_iconst (v := 1) hx hb dX11_breaksIn_119 (by decide) ?_
                refine lv_goto (tgt := 124) hx hb dX11_breaksIn_120 (by decide) ?_
                refine lv_istore (lv' := [(7, .int 1), (8, .int (nI t)), (5, .int ((gsV (σ 277) n mb k) + (gmV (goK (σ 277) n mb k).1 n n))), (6, .int (nI (k + 1))), (4, .int f9), (3, .int (σ 277 (72 + 4 * tN x + 1))), (2, .int (σ 277 (72 + 4 * tN x + 0))), (0, .ref (ad 276)), (1, .int x)]) hx hb dX11_breaksIn_124 hl (by decide) rfl (fun ls hl => ?_)
                refine lv_iinc (v := nI (t + 1)) (lv' := [(8, .int (nI (t + 1))), (7, .int 1), (5, .int ((gsV (σ 277) n mb k) + (gmV (goK (σ 277) n mb k).1 n n))), (6, .int (nI (k + 1))), (4, .int f9), (3, .int (σ 277 (72 + 4 * tN x + 1))), (2, .int (σ 277 (72 + 4 * tN x + 0))), (0, .ref (ad 276)), (1, .int x)]) hx hb dX11_breaksIn_126 hl (k := 1) rfl (nI_inc _) (by decide) rfl (fun ls hl => ?_)
                refine lv_goto (tgt := 81) hx hb dX11_breaksIn_129 (by decide) ?_
                exact ih (t + 1) (by omega)  _ _ _ hP hS (lv_v (lv_sub (l' := [(8, .int (nI (t + 1))), (7, .int 1), (5, .int ((gsV (σ 277) n mb k) + (gmV (goK (σ 277) n mb k).1 n n))), (6, .int (nI (k + 1))), (4, .int f9), (3, .int (σ 277 (72 + 4 * tN x + 1))), (2, .int (σ 277 (72 + 4 * tN x + 0))), (0, .ref (ad 276)), (1, .int x)]) hl [0, 1, 2, 3, 4, 5, 6, 7, 8] rfl) (by rw [isR_s, if_neg c_94]))
              · refine lv_aload_n hx hb dX11_breaksIn_97 rfl (lv_at hl 7 rfl) ?_
                refine lv_iload hx hb dX11_breaksIn_98 (lv_at hl 0 rfl) ?_
                refine lv_iconst (v := 0) hx hb dX11_breaksIn_100 (by decide) ?_
                refine cVie (As := [.int (nI t), .int (nI 0)]) S G 276 (c_X11_beam l (D := D) (ct := ct) (ek := ek) (ad := ad) (N0 := N0) (X := X) (F := F) (goM τ n ((goK (σ 277) n mb k).2)) t (by omega) 0 (by omega)) ok_yX11_beam ml_RX11_79 (by decide) oM rfl hP hS hl.1 rfl (by decide) rfl rfl (Nat.le_of_ble_eq_true rfl) ⟨Nat.zero_le _, Nat.zero_le _⟩ dX11_breaksIn_101 (fun H locs hP hS => ?_)
                refine lv_tope (y := (goK (σ 277) n mb (k + 1)).1 (72 + 4 * t + 0)) (by rw [(LpG_go hτ).2]) ?_
                refine lv_iload_n hx hb dX11_breaksIn_104 rfl (lv_at hl 6 rfl) ?_
                refine lv_icmp_ne (tgt := 123) hx hb dX11_breaksIn_105 (by decide) (fun c_105 => ?_) (fun c_105 => ?_)
                · refine lv_iconst (v := 0) hx hb dX11_breaksIn_123 (by decide) ?_
                  refine lv_istore (lv' := [(7, .int 0), (8, .int (nI t)), (5, .int ((gsV (σ 277) n mb k) + (gmV (goK (σ 277) n mb k).1 n n))), (6, .int (nI (k + 1))), (4, .int f9), (3, .int (σ 277 (72 + 4 * tN x + 1))), (2, .int (σ 277 (72 + 4 * tN x + 0))), (0, .ref (ad 276)), (1, .int x)]) hx hb dX11_breaksIn_124 hl (by decide) rfl (fun ls hl => ?_)
                  refine lv_iinc (v := nI (t + 1)) (lv' := [(8, .int (nI (t + 1))), (7, .int 0), (5, .int ((gsV (σ 277) n mb k) + (gmV (goK (σ 277) n mb k).1 n n))), (6, .int (nI (k + 1))), (4, .int f9), (3, .int (σ 277 (72 + 4 * tN x + 1))), (2, .int (σ 277 (72 + 4 * tN x + 0))), (0, .ref (ad 276)), (1, .int x)]) hx hb dX11_breaksIn_126 hl (k := 1) rfl (nI_inc _) (by decide) rfl (fun ls hl => ?_)
                  refine lv_goto (tgt := 81) hx hb dX11_breaksIn_129 (by decide) ?_
                  exact ih (t + 1) (by omega)  _ _ _ hP hS (lv_v (lv_sub (l' := [(8, .int (nI (t + 1))), (7, .int 0), (5, .int ((gsV (σ 277) n mb k) + (gmV (goK (σ 277) n mb k).1 n n))), (6, .int (nI (k + 1))), (4, .int f9), (3, .int (σ 277 (72 + 4 * tN x + 1))), (2, .int (σ 277 (72 + 4 * tN x + 0))), (0, .ref (ad 276)), (1, .int x)]) hl [0, 1, 2, 3, 4, 5, 6, 7, 8] rfl) (by rw [isR_s, if_pos c_94, if_neg c_105]))
                · refine lv_aload_n hx hb dX11_breaksIn_108 rfl (lv_at hl 7 rfl) ?_
                  refine lv_iload hx hb dX11_breaksIn_109 (lv_at hl 0 rfl) ?_
                  refine lv_iconst (v := 1) hx hb dX11_breaksIn_111 (by decide) ?_
                  refine cVie (As := [.int (nI t), .int (nI 1)]) S G 276 (c_X11_beam l (D := D) (ct := ct) (ek := ek) (ad := ad) (N0 := N0) (X := X) (F := F) (goM τ n ((goK (σ 277) n mb k).2)) t (by omega) 1 (by omega)) ok_yX11_beam ml_RX11_79 (by decide) oM rfl hP hS hl.1 rfl (by decide) rfl rfl (Nat.le_of_ble_eq_true rfl) ⟨Nat.zero_le _, Nat.zero_le _⟩ dX11_breaksIn_112 (fun H locs hP hS => ?_)
                  refine lv_tope (y := (goK (σ 277) n mb (k + 1)).1 (72 + 4 * t + 1)) (by rw [(LpG_go hτ).2]) ?_
                  refine lv_iload_n hx hb dX11_breaksIn_115 rfl (lv_at hl 5 rfl) ?_
                  refine lv_icmp_ne (tgt := 123) hx hb dX11_breaksIn_116 (by decide) (fun c_116 => ?_) (fun c_116 => ?_)
                  · refine lv_iconst (v := 0) hx hb dX11_breaksIn_123 (by decide) ?_
                    refine lv_istore (lv' := [(7, .int 0), (8, .int (nI t)), (5, .int ((gsV (σ 277) n mb k) + (gmV (goK (σ 277) n mb k).1 n n))), (6, .int (nI (k + 1))), (4, .int f9), (3, .int (σ 277 (72 + 4 * tN x + 1))), (2, .int (σ 277 (72 + 4 * tN x + 0))), (0, .ref (ad 276)), (1, .int x)]) hx hb dX11_breaksIn_124 hl (by decide) rfl (fun ls hl => ?_)
                    refine lv_iinc (v := nI (t + 1)) (lv' := [(8, .int (nI (t + 1))), (7, .int 0), (5, .int ((gsV (σ 277) n mb k) + (gmV (goK (σ 277) n mb k).1 n n))), (6, .int (nI (k + 1))), (4, .int f9), (3, .int (σ 277 (72 + 4 * tN x + 1))), (2, .int (σ 277 (72 + 4 * tN x + 0))), (0, .ref (ad 276)), (1, .int x)]) hx hb dX11_breaksIn_126 hl (k := 1) rfl (nI_inc _) (by decide) rfl (fun ls hl => ?_)
                    refine lv_goto (tgt := 81) hx hb dX11_breaksIn_129 (by decide) ?_
                    exact ih (t + 1) (by omega)  _ _ _ hP hS (lv_v (lv_sub (l' := [(8, .int (nI (t + 1))), (7, .int 0), (5, .int ((gsV (σ 277) n mb k) + (gmV (goK (σ 277) n mb k).1 n n))), (6, .int (nI (k + 1))), (4, .int f9), (3, .int (σ 277 (72 + 4 * tN x + 1))), (2, .int (σ 277 (72 + 4 * tN x + 0))), (0, .ref (ad 276)), (1, .int x)]) hl [0, 1, 2, 3, 4, 5, 6, 7, 8] rfl) (by rw [isR_s, if_pos c_94, if_pos c_105, if_neg c_116]))
                  · refine lv_iconst (v := 1) hx hb dX11_breaksIn_119 (by decide) ?_
                    refine lv_goto (tgt := 124) hx hb dX11_breaksIn_120 (by decide) ?_
                    refine lv_istore (lv' := [(7, .int 1), (8, .int (nI t)), (5, .int ((gsV (σ 277) n mb k) + (gmV (goK (σ 277) n mb k).1 n n))), (6, .int (nI (k + 1))), (4, .int f9), (3, .int (σ 277 (72 + 4 * tN x + 1))), (2, .int (σ 277 (72 + 4 * tN x + 0))), (0, .ref (ad 276)), (1, .int x)]) hx hb dX11_breaksIn_124 hl (by decide) rfl (fun ls hl => ?_)
                    refine lv_iinc (v := nI (t + 1)) (lv' := [(8, .int (nI (t + 1))), (7, .int 1), (5, .int ((gsV (σ 277) n mb k) + (gmV (goK (σ 277) n mb k).1 n n))), (6, .int (nI (k + 1))), (4, .int f9), (3, .int (σ 277 (72 + 4 * tN x + 1))), (2, .int (σ 277 (72 + 4 * tN x + 0))), (0, .ref (ad 276)), (1, .int x)]) hx hb dX11_breaksIn_126 hl (k := 1) rfl (nI_inc _) (by decide) rfl (fun ls hl => ?_)
                    refine lv_goto (tgt := 81) hx hb dX11_breaksIn_129 (by decide) ?_
                    exact ih (t + 1) (by omega)  _ _ _ hP hS (lv_v (lv_sub (l' := [(8, .int (nI (t + 1))), (7, .int 1), (5, .int ((gsV (σ 277) n mb k) + (gmV (goK (σ 277) n mb k).1 n n))), (6, .int (nI (k + 1))), (4, .int f9), (3, .int (σ 277 (72 + 4 * tN x + 1))), (2, .int (σ 277 (72 + 4 * tN x + 0))), (0, .ref (ad 276)), (1, .int x)]) hl [0, 1, 2, 3, 4, 5, 6, 7, 8] rfl) (by rw [isR_s, if_pos c_94, if_pos c_105, if_pos c_116]))
          exact key_81 ((goK (σ 277) n mb (k + 1)).2) 0 (by omega)  _ _ _ hP hS (lv_v (lv_sub (l' := [(8, .int 0), (7, .int 0), (5, .int ((gsV (σ 277) n mb k) + (gmV (goK (σ 277) n mb k).1 n n))), (6, .int (nI (k + 1))), (4, .int f9), (3, .int (σ 277 (72 + 4 * tN x + 1))), (2, .int (σ 277 (72 + 4 * tN x + 0))), (0, .ref (ad 276)), (1, .int x)]) hl [0, 1, 2, 3, 4, 5, 6, 7, 8] rfl) rfl)
    exact key_54 99 0 (by omega) 0 (Or.inl ⟨rfl, rfl⟩) _ (LpG_0 rfl) _ _ _ hP hS (lv_v (lv_sub (l' := [(6, .int 1), (5, .int 0), (4, .int 0), (3, .int (σ 277 (72 + 4 * tN x + 1))), (2, .int (σ 277 (72 + 4 * tN x + 0))), (0, .ref (ad 276)), (1, .int x)]) hl [0, 1, 2, 3, 4, 5, 6] rfl) rfl)
  · refine lv_aload_n hx hb dX11_breaksIn_21 rfl (lv_at hl 0 rfl) ?_
    refine lv_iconst (v := 1) hx hb dX11_breaksIn_22 (by decide) ?_
    refine cVie (As := [.int 1]) S G 276 (c_X11_raises l (D := D) (ct := ct) (ek := ek) (ad := ad) (N0 := N0) (X := X) (F := F) (sg σ 276 20 0) 1) ok_yX11_raises ml_RX11_64 (by decide) oM rfl hP hS hl.1 rfl (by decide) rfl rfl (Nat.le_of_ble_eq_true rfl) ⟨Nat.zero_le _, Nat.zero_le _⟩ dX11_breaksIn_23 (fun H locs hP hS => ?_)
    exact eI S hr hlocks hP hS dX11_breaksIn_26 (by first | exact ⟨by simp [briV, c_18], QG_1 (by simp [briT, c_18])⟩ | exact ⟨by rw [briV, if_neg c_18, hv]; rfl, QG_f2 hτ (by rw [briT, if_neg c_18, if_pos hv])⟩ | exact ⟨by rw [briV, if_neg c_18]; exact hv.1, QG_f hτ (by rw [briT, if_neg c_18, if_neg hv.2])⟩)

theorem ok_yX11_signs : COK RX11 yX11_signs cX11_signs 2 none 1 := ⟨im_yX11_signs, se_RX11_yX11_signs, in_RX11, co_yX11_signs, ⟨rfl, by decide +kernel, by decide +kernel, by decide +kernel⟩, by decide⟩
set_option maxHeartbeats 1000000 in
set_option maxRecDepth 100000 in
theorem c_X11_signs (l : Launch) {D : va_G} {ct : Nat → ClassId} {ek ad : Nat → Nat} {N0 : Nat} {X : va_W} {F : State → Prop} (σ : Mem) (ch : Int32) (hc9 : vp_nar .char ch = ch) (hw : LmP σ σ 119) : MV l yX11_signs cX11_signs 2 0 D ct ek ad N0 X F [.ref (ad 276), .int ch] σ (fun τ => τ = mlM σ ch) := by
  refine ms0 (own := RX11) (by decide) rfl (Nat.le_of_ble_eq_true rfl) (fun p e s m args below meth c S hr hlocks hnm G hP hS ls hl => ?_)
  have hx := S.1
  have hb := S.2.1
  replace hl : lv_has ls 2 [(0, .ref (ad 276)), (1, .int ch)] := hl
  obtain ⟨L, hL, hw1⟩ := hw.2.2
  have hwN : σ 276 9 = nI (tN (σ 276 9)) := by rw [hw1]; exact congrArg nI (tN_nI (by omega)).symm
  have hlt : tN (σ 276 9) < 120 := by rw [hw1, tN_nI (by omega)]; omega
  refine lv_aload_n hx hb dX11_signs_0 rfl (lv_at hl 0 rfl) ?_
  refine gf S G hP 276 8 (by decide) oM rfl inX11 (by decide) fl_RX11_28 rfl rfl dX11_signs_1 ?_
  refine lv_aload_n hx hb dX11_signs_4 rfl (lv_at hl 0 rfl) ?_
  refine lv_dup hx hb dX11_signs_5 rfl ?_
  refine gf S G hP 276 9 (by decide) oM rfl inX11 (by decide) fl_RX11_236 rfl rfl dX11_signs_6 ?_
  refine lv_dup_x1 hx hb dX11_signs_9 rfl rfl ?_
  refine lv_iconst (v := 1) hx hb dX11_signs_10 (by decide) ?_
  refine lv_iadd hx hb dX11_signs_11 ?_
  refine pf S G hP hS 276 9 (x := (σ 276 9) + 1) tyX11 tyX11_ok nmX11 (by decide) oM rfl inX11 (by decide) fl_RX11_236 rfl rfl rfl rfl (Nat.le_of_ble_eq_true rfl) oM dX11_signs_12 (fun H locs hP hS => ?_)
  refine lv_iload_n hx hb dX11_signs_15 rfl (lv_at hl 1 rfl) ?_
  refine cst S G hP hS 283 (tN (σ 276 9)) (by decide) aM283 hwN (by omega) (by decide) hc9 dX11_signs_16 (fun H locs hP hS => ?_)
  exact eV S hr hlocks hP hS dX11_signs_17 (by first | rfl | (simp [mlM]; done) | (simp only [mlM, ↓reduceIte, if_true, if_false]; done) | grind [mlM])

theorem ok_yX11_writes : COK RX11 yX11_writes cX11_writes 2 none 1 := ⟨im_yX11_writes, se_RX11_yX11_writes, in_RX11, co_yX11_writes, ⟨rfl, by decide +kernel, by decide +kernel, by decide +kernel⟩, by decide⟩
set_option maxHeartbeats 1000000 in
set_option maxRecDepth 100000 in
theorem c_X11_writes9 (l : Launch) {D : va_G} {ct : Nat → ClassId} {ek ad : Nat → Nat} {N0 : Nat} {X : va_W} {F : State → Prop} (σ : Mem) (x : Int32) (hx9 : x ≤ 9) (hw : LmP σ σ 119) : MV l yX11_writes cX11_writes 2 1 D ct ek ad N0 X F [.ref (ad 276), .int x] σ (fun τ => τ = ml1 σ x) := by
  refine ms0 (own := RX11) (by decide) rfl (Nat.le_of_ble_eq_true rfl) (fun p e s m args below meth c S hr hlocks hnm G hP hS ls hl => ?_)
  have hx := S.1
  have hb := S.2.1
  replace hl : lv_has ls 2 [(0, .ref (ad 276)), (1, .int x)] := hl
  refine lv_iload_n hx hb dX11_writes_0 rfl (lv_at hl 1 rfl) ?_
  refine lv_bipush (v := 9) hx hb dX11_writes_1 (by decide) ?_
  refine lv_icmp_le (tgt := 14) hx hb dX11_writes_3 (by decide) (fun c_3 => ?_) (fun c_3 => absurd hx9 c_3)
  refine lv_aload_n hx hb dX11_writes_14 rfl (lv_at hl 0 rfl) ?_
  refine lv_bipush (v := 48) hx hb dX11_writes_15 (by decide) ?_
  refine lv_iload_n hx hb dX11_writes_17 rfl (lv_at hl 1 rfl) ?_
  refine lv_bipush (v := 10) hx hb dX11_writes_18 (by decide) ?_
  refine lv_irem hx hb dX11_writes_20 (by decide) ?_
  refine lv_iadd hx hb dX11_writes_21 ?_
  refine lv_i2c (v := chI (48 + (x - x / 10 * 10))) hx hb dX11_writes_22 rfl ?_
  refine cVve (As := [.int (chI (48 + (x - x / 10 * 10)))]) S G 276 (c_X11_signs l (D := D) (ct := ct) (ek := ek) (ad := ad) (N0 := N0) (X := X) (F := F) σ (chI (48 + (x - x / 10 * 10))) (chI_nar _) (by first | assumption | omega | (simp [sg_at]; assumption) | (simp [sg_at]; done))) ok_yX11_signs ml_RX11_242 (by decide) oM rfl hP hS hl.1 rfl (by decide) rfl rfl (Nat.le_of_ble_eq_true rfl) ⟨Nat.zero_le _, Nat.zero_le _⟩ dX11_writes_23 (fun H locs hP hS => ?_)
  exact eV S hr hlocks hP hS dX11_writes_26 (by first | (simp only [ml1, c_3, ↓reduceIte, if_true, if_false, eq_self]; done) | rfl | (simp [ml1, c_3]; done) | grind [ml1])

set_option maxHeartbeats 1000000 in
set_option maxRecDepth 100000 in
theorem c_X11_writes (l : Launch) {D : va_G} {ct : Nat → ClassId} {ek ad : Nat → Nat} {N0 : Nat} {X : va_W} {F : State → Prop} (σ : Mem) (x : Int32) (hv : x = nI (tN x) ∧ tN x ≤ 99) (hw : LmP σ σ 118) : MV l yX11_writes cX11_writes 2 2 D ct ek ad N0 X F [.ref (ad 276), .int x] σ (fun τ => τ = mlN σ x) := by
  refine ms0 (own := RX11) (by decide) rfl (Nat.le_of_ble_eq_true rfl) (fun p e s m args below meth c S hr hlocks hnm G hP hS ls hl => ?_)
  have hx := S.1
  have hb := S.2.1
  replace hl : lv_has ls 2 [(0, .ref (ad 276)), (1, .int x)] := hl
  refine lv_iload_n hx hb dX11_writes_0 rfl (lv_at hl 1 rfl) ?_
  refine lv_bipush (v := 9) hx hb dX11_writes_1 (by decide) ?_
  have jn_3_1 : ∀ (H : Heap) (locs : List Loc) (ls : Array Slot), wP D ct ek ad X (if x ≤ 9 then σ else ml1 σ (x / 10)) H → va_S (fr N0) s.heap H locs → lv_has ls 2 [(0, .ref (ad 276)), (1, .int x)] → W p l e (rmd 2 0 0) s m args below meth c H locs 0 0 (MQ below (wQv D ct ek ad N0 X (fun τ => τ = mlN σ x)) args s 0 0 (fr N0)) (F0 m 14 ls []) := by
    intro H locs ls hP hS hl
    refine lv_aload_n hx hb dX11_writes_14 rfl (lv_at hl 0 rfl) ?_
    refine lv_bipush (v := 48) hx hb dX11_writes_15 (by decide) ?_
    refine lv_iload_n hx hb dX11_writes_17 rfl (lv_at hl 1 rfl) ?_
    refine lv_bipush (v := 10) hx hb dX11_writes_18 (by decide) ?_
    refine lv_irem hx hb dX11_writes_20 (by decide) ?_
    refine lv_iadd hx hb dX11_writes_21 ?_
    refine lv_i2c (v := chI (48 + (x - x / 10 * 10))) hx hb dX11_writes_22 rfl ?_
    refine cVve (As := [.int (chI (48 + (x - x / 10 * 10)))]) S G 276 (c_X11_signs l (D := D) (ct := ct) (ek := ek) (ad := ad) (N0 := N0) (X := X) (F := F) (if x ≤ 9 then σ else ml1 σ (x / 10)) (chI (48 + (x - x / 10 * 10))) (chI_nar _) (LmP_l (LmP_if (LmP_up hw (by omega)) (LmP_put hw)))) ok_yX11_signs ml_RX11_242 (by decide) oM rfl hP hS hl.1 rfl (by decide) rfl rfl (Nat.le_of_ble_eq_true rfl) ⟨Nat.zero_le _, Nat.zero_le _⟩ dX11_writes_23 (fun H locs hP hS => ?_)
    exact eV S hr hlocks hP hS dX11_writes_26 (by first | rfl | (simp [mlN, ml1]; done) | (simp only [mlN, ml1, ↓reduceIte, if_true, if_false]; done) | grind [mlN, ml1])
  refine lv_icmp_le (tgt := 14) hx hb dX11_writes_3 (by decide) (fun c_3 => ?_) (fun c_3 => ?_)
  · exact jn_3_1 _ _ _ (wP_e hP (by first | (simp only [c_3, ↓reduceIte, if_true, if_false]; done) | (simp [c_3]; done) | rfl)) hS (lv_sub hl [0, 1] rfl)
  · refine lv_aload_n hx hb dX11_writes_6 rfl (lv_at hl 0 rfl) ?_
    refine lv_iload_n hx hb dX11_writes_7 rfl (lv_at hl 1 rfl) ?_
    refine lv_bipush (v := 10) hx hb dX11_writes_8 (by decide) ?_
    refine lv_idiv hx hb dX11_writes_10 (by decide) ?_
    refine cVve (As := [.int (x / 10)]) S G 276 (c_X11_writes9 l (D := D) (ct := ct) (ek := ek) (ad := ad) (N0 := N0) (X := X) (F := F) σ (x / 10) (wr10 hv) (LmP_up hw (by omega))) ok_yX11_writes ml_RX11_239 (by decide) oM rfl hP hS hl.1 rfl (by decide) rfl rfl (Nat.le_of_ble_eq_true rfl) ⟨Nat.zero_le _, Nat.zero_le _⟩ dX11_writes_11 (fun H locs hP hS => ?_)
    exact jn_3_1 _ _ _ (wP_e hP (by first | (simp only [c_3, ↓reduceIte, if_true, if_false]; done) | (simp [c_3]; done) | rfl)) hS (lv_sub hl [0, 1] rfl)

theorem ok_yX11_writes_ : COK RX11 yX11_writes_ cX11_writes_ 3 none 2 := ⟨im_yX11_writes_, se_RX11_yX11_writes_, in_RX11, co_yX11_writes_, ⟨rfl, by decide +kernel, by decide +kernel, by decide +kernel⟩, by decide⟩
set_option maxHeartbeats 1000000 in
set_option maxRecDepth 100000 in
theorem c_X11_writes_ (l : Launch) {D : va_G} {ct : Nat → ClassId} {ek ad : Nat → Nat} {N0 : Nat} {X : va_W} {F : State → Prop} (σ : Mem) (ch : Int32) (x : Int32) (hc9 : vp_nar .char ch = ch) (hv : x = nI (tN x) ∧ tN x ≤ 99) (hw : LmP σ σ 117) : MV l yX11_writes_ cX11_writes_ 3 3 D ct ek ad N0 X F [.ref (ad 276), .int ch, .int x] σ (fun τ => τ = mlN (mlM σ ch) x) := by
  refine ms0 (own := RX11) (by decide) rfl (Nat.le_of_ble_eq_true rfl) (fun p e s m args below meth c S hr hlocks hnm G hP hS ls hl => ?_)
  have hx := S.1
  have hb := S.2.1
  replace hl : lv_has ls 3 [(0, .ref (ad 276)), (1, .int ch), (2, .int x)] := hl
  refine lv_aload_n hx hb dX11_writes__0 rfl (lv_at hl 0 rfl) ?_
  refine lv_iload_n hx hb dX11_writes__1 rfl (lv_at hl 1 rfl) ?_
  refine cVve (As := [.int ch]) S G 276 (c_X11_signs l (D := D) (ct := ct) (ek := ek) (ad := ad) (N0 := N0) (X := X) (F := F) σ ch (by first | assumption | omega | (simp [sg_at]; assumption) | (simp [sg_at]; done)) (LmP_up hw (by omega))) ok_yX11_signs ml_RX11_242 (by decide) oM rfl hP hS hl.1 rfl (by decide) rfl rfl (Nat.le_of_ble_eq_true rfl) ⟨Nat.zero_le _, Nat.zero_le _⟩ dX11_writes__2 (fun H locs hP hS => ?_)
  refine lv_aload_n hx hb dX11_writes__5 rfl (lv_at hl 0 rfl) ?_
  refine lv_iload_n hx hb dX11_writes__6 rfl (lv_at hl 2 rfl) ?_
  refine cVve (As := [.int x]) S G 276 (c_X11_writes l (D := D) (ct := ct) (ek := ek) (ad := ad) (N0 := N0) (X := X) (F := F) (mlM σ ch) x (by omega) (LmP_l (LmP_put hw))) ok_yX11_writes ml_RX11_239 (by decide) oM rfl hP hS hl.1 rfl (by decide) rfl rfl (Nat.le_of_ble_eq_true rfl) ⟨Nat.zero_le _, Nat.zero_le _⟩ dX11_writes__7 (fun H locs hP hS => ?_)
  exact eV S hr hlocks hP hS dX11_writes__10 (by first | rfl | (simp []; done) | (simp only [↓reduceIte, if_true, if_false]; done) | grind [])

theorem ok_yX11_line : COK RX11 yX11_line cX11_line 3 (some .int) 1 := ⟨im_yX11_line, se_RX11_yX11_line, in_RX11, co_yX11_line, ⟨rfl, by decide +kernel, by decide +kernel, by decide +kernel⟩, by decide⟩
set_option maxHeartbeats 1000000 in
set_option maxRecDepth 100000 in
theorem c_X11_line (l : Launch) {D : va_G} {ct : Nat → ClassId} {ek ad : Nat → Nat} {N0 : Nat} {X : va_W} {F : State → Prop} (σ : Mem) (x : Int32) (n : Nat) (mb : Nat) (hR : RowOK (σ 277) n mb) (hA : ∀ p, p < 6 → abI (σ 277 (6 + 5 * p + 0)) = nI (tN (abI (σ 277 (6 + 5 * p + 0)))) ∧ tN (abI (σ 277 (6 + 5 * p + 0))) ≤ 99) : MI l yX11_line cX11_line 3 (some .int) 4 D ct ek ad N0 X F [.ref (ad 276), .int x] σ (fun r τ => r = linV σ n x ∧ τ = linM σ n x) := by
  refine ms0 (own := RX11) (by decide) rfl (Nat.le_of_ble_eq_true rfl) (fun p e s m args below meth c S hr hlocks hnm G hP hS ls hl => ?_)
  have hx := S.1
  have hb := S.2.1
  replace hl : lv_has ls 3 [(0, .ref (ad 276)), (1, .int x)] := hl
  have hn := hR.1
  have hn6 := hR.2.1
  have hm := hR.2.2.1
  have hm6 := hR.2.2.2.1
  have hBq := hR.2.2.2.2.2.2
  have h0 : ∀ p, p < 6 → okN (σ 277 (6 + 5 * p + 1)) := hR.2.2.2.2.1
  have h9 : ∀ p q, p < 6 → q < 6 → okN (σ 277 (36 + 6 * p + q)) := hR.2.2.2.2.2.1
  refine lv_aload_n hx hb dX11_line_0 rfl (lv_at hl 0 rfl) ?_
  refine lv_aload_n hx hb dX11_line_1 rfl (lv_at hl 0 rfl) ?_
  refine lv_iload_n hx hb dX11_line_2 rfl (lv_at hl 1 rfl) ?_
  refine cVie (As := [.int x]) S G 276 (c_X11_isOne l (D := D) (ct := ct) (ek := ek) (ad := ad) (N0 := N0) (X := X) (F := F) σ x) ok_yX11_isOne ml_RX11_71 (by decide) oM rfl hP hS hl.1 rfl (by decide) rfl rfl (Nat.le_of_ble_eq_true rfl) ⟨Nat.zero_le _, Nat.zero_le _⟩ dX11_line_3 (fun H locs hP hS => ?_)
  refine lv_if_eq (tgt := 13) hx hb dX11_line_6 (by decide) (fun c_6 => ?_) (fun c_6 => ?_)
  · refine lv_iconst (v := 1) hx hb dX11_line_13 (by decide) ?_
    refine pf S G hP hS 276 20 (x := 1) tyX11 tyX11_ok nmX11 (by decide) oM rfl inX11 (by decide) fl_RX11_42 rfl rfl rfl rfl (Nat.le_of_ble_eq_true rfl) oM dX11_line_14 (fun H locs hP hS => ?_)
    refine lv_aload_n hx hb dX11_line_17 rfl (lv_at hl 0 rfl) ?_
    refine gf S G hP 276 20 (by decide) oM rfl inX11 (by decide) fl_RX11_42 rfl rfl dX11_line_18 ?_
    refine lv_tope (y := 1) (by rw [sg_ss]) ?_
    refine lv_if_le (tgt := 26) hx hb dX11_line_21 (by decide) (fun c_21 => absurd c_21 (by decide)) (fun c_21 => ?_)
    refine lv_iconst (v := 0) hx hb dX11_line_24 (by decide) ?_
    exact eI S hr hlocks hP hS dX11_line_25 (by first | (refine ⟨?_, ?_⟩ <;> simp only [linV, linM, thM, sg_sg, c_6, c_21, ↓reduceIte, if_true, if_false, eq_self]; done) | (refine ⟨?_, rfl⟩; simp only [linV, linM, thM, sg_sg, c_6, c_21, ↓reduceIte, if_true, if_false, eq_self]; done) | exact ⟨rfl, rfl⟩ | (refine ⟨?_, rfl⟩; simp [linV, linM, thM, sg_sg, c_6, c_21]; done) | (simp [linV, linM, thM, sg_sg, c_6, c_21]; done) | grind [linV, linM, thM, sg_sg])
  · refine lv_iconst (v := 0) hx hb dX11_line_9 (by decide) ?_
    refine lv_goto (tgt := 14) hx hb dX11_line_10 (by decide) ?_
    refine pf S G hP hS 276 20 (x := 0) tyX11 tyX11_ok nmX11 (by decide) oM rfl inX11 (by decide) fl_RX11_42 rfl rfl rfl rfl (Nat.le_of_ble_eq_true rfl) oM dX11_line_14 (fun H locs hP hS => ?_)
    refine lv_aload_n hx hb dX11_line_17 rfl (lv_at hl 0 rfl) ?_
    refine gf S G hP 276 20 (by decide) oM rfl inX11 (by decide) fl_RX11_42 rfl rfl dX11_line_18 ?_
    refine lv_tope (y := 0) (by rw [sg_ss]) ?_
    refine lv_if_le (tgt := 26) hx hb dX11_line_21 (by decide) (fun c_21 => ?_) (fun c_21 => absurd (by decide) c_21)
    obtain ⟨h1, h1l⟩ := rngN (show ¬ rngB x 0 (σ 277 0 - 1) = 0 from c_6) hn (by omega)
    refine lv_aload_n hx hb dX11_line_26 rfl (lv_at hl 0 rfl) ?_
    refine lv_iconst (v := 0) hx hb dX11_line_27 (by decide) ?_
    refine pf S G hP hS 276 9 (x := 0) tyX11 tyX11_ok nmX11 (by decide) oM rfl inX11 (by decide) fl_RX11_236 rfl rfl rfl rfl (Nat.le_of_ble_eq_true rfl) oM dX11_line_28 (fun H locs hP hS => ?_)
    refine lv_aload_n hx hb dX11_line_31 rfl (lv_at hl 0 rfl) ?_
    refine lv_aload_n hx hb dX11_line_32 rfl (lv_at hl 0 rfl) ?_
    refine lv_iload_n hx hb dX11_line_33 rfl (lv_at hl 1 rfl) ?_
    refine lv_tope (y := nI (tN (x))) h1 ?_
    refine lv_iconst (v := 2) hx hb dX11_line_34 (by decide) ?_
    refine cVie (As := [.int (nI (tN (x))), .int (nI 2)]) S G 276 (c_X11_of l (D := D) (ct := ct) (ek := ek) (ad := ad) (N0 := N0) (X := X) (F := F) (sg (sg σ 276 20 0) 276 9 0) (tN (x)) (by omega) 2 (by omega)) ok_yX11_of ml_RX11_83 (by decide) oM rfl hP hS hl.1 rfl (by decide) rfl rfl (Nat.le_of_ble_eq_true rfl) ⟨Nat.zero_le _, Nat.zero_le _⟩ dX11_line_35 (fun H locs hP hS => ?_)
    refine lv_tope (y := σ 277 (6 + 5 * tN x + 2)) (by rw [LmP_r (τ := (sg (sg σ 276 20 0) 276 9 0)) (σ := (sg σ 276 20 0)) (by with_reducible repeat (first | exact LmP_z | exact LmP_ln0 | exact LmP_ln1 | exact LmP_ln2 | exact LmP_lnK _ | exact hlb _ (by omega) | apply LmP_put | apply LmP_num | apply LmP_lbB | exact LmP_if (LmP_up (hlb _ (by omega)) (Nat.le_succ _)) (LmP_put (hlb _ (by omega))) | exact LmP_lbC (LmP_lbB (hlb _ (by omega))) _)), th_r]) ?_
    refine lv_iconst (v := 1) hx hb dX11_line_38 (by decide) ?_
    have jn_39_1 : ∀ (H : Heap) (locs : List Loc) (ls : Array Slot), wP D ct ek ad X (sg (sg σ 276 20 0) 276 9 0) H → va_S (fr N0) s.heap H locs → lv_has ls 3 [(0, .ref (ad 276)), (1, .int x)] → W p l e (rmd 4 0 0) s m args below meth c H locs 0 0 (MQ below (wQi D ct ek ad N0 X (fun r τ => r = linV σ n x ∧ τ = linM σ n x)) args s 0 0 (fr N0)) (F0 m 49 ls [.int (if σ 277 (6 + 5 * tN x + 2) = 1 then 115 else 111), .ref (ad 276)]) := by
      intro H locs ls hP hS hl
      refine cVve (As := [.int (if σ 277 (6 + 5 * tN x + 2) = 1 then 115 else 111)]) S G 276 (c_X11_signs l (D := D) (ct := ct) (ek := ek) (ad := ad) (N0 := N0) (X := X) (F := F) (sg (sg σ 276 20 0) 276 9 0) (if σ 277 (6 + 5 * tN x + 2) = 1 then 115 else 111) (by split <;> rfl) (LmP_l (LmP_up (σ := (sg σ 276 20 0)) (by with_reducible repeat (first | exact LmP_z | exact LmP_ln0 | exact LmP_ln1 | exact LmP_ln2 | exact LmP_lnK _ | exact hlb _ (by omega) | apply LmP_put | apply LmP_num | apply LmP_lbB | exact LmP_if (LmP_up (hlb _ (by omega)) (Nat.le_succ _)) (LmP_put (hlb _ (by omega))) | exact LmP_lbC (LmP_lbB (hlb _ (by omega))) _)) (by omega)))) ok_yX11_signs ml_RX11_242 (by decide) oM rfl hP hS hl.1 rfl (by decide) rfl rfl (Nat.le_of_ble_eq_true rfl) ⟨Nat.zero_le _, Nat.zero_le _⟩ dX11_line_49 (fun H locs hP hS => ?_)
      replace hP : wP D ct ek ad X (ln0 (σ 277) (sg σ 276 20 0) (tN x)) H := hP
      refine lv_aload_n hx hb dX11_line_52 rfl (lv_at hl 0 rfl) ?_
      refine lv_iload_n hx hb dX11_line_53 rfl (lv_at hl 1 rfl) ?_
      refine lv_tope (y := nI (tN (x))) h1 ?_
      refine lv_iconst (v := 0) hx hb dX11_line_54 (by decide) ?_
      refine cVie (As := [.int (nI (tN (x))), .int (nI 0)]) S G 276 (c_X11_of l (D := D) (ct := ct) (ek := ek) (ad := ad) (N0 := N0) (X := X) (F := F) (ln0 (σ 277) (sg σ 276 20 0) (tN x)) (tN (x)) (by omega) 0 (by omega)) ok_yX11_of ml_RX11_83 (by decide) oM rfl hP hS hl.1 rfl (by decide) rfl rfl (Nat.le_of_ble_eq_true rfl) ⟨Nat.zero_le _, Nat.zero_le _⟩ dX11_line_55 (fun H locs hP hS => ?_)
      refine lv_tope (y := σ 277 (6 + 5 * tN x + 0)) (by rw [LmP_r (τ := (ln0 (σ 277) (sg σ 276 20 0) (tN x))) (σ := (sg σ 276 20 0)) (by with_reducible repeat (first | exact LmP_z | exact LmP_ln0 | exact LmP_ln1 | exact LmP_ln2 | exact LmP_lnK _ | exact hlb _ (by omega) | apply LmP_put | apply LmP_num | apply LmP_lbB | exact LmP_if (LmP_up (hlb _ (by omega)) (Nat.le_succ _)) (LmP_put (hlb _ (by omega))) | exact LmP_lbC (LmP_lbB (hlb _ (by omega))) _)), th_r]) ?_
      have jn_58_2 : ∀ (H : Heap) (locs : List Loc) (ls : Array Slot), wP D ct ek ad X (ln1 (σ 277) (sg σ 276 20 0) (tN x)) H → va_S (fr N0) s.heap H locs → lv_has ls 3 [(0, .ref (ad 276)), (1, .int x)] → W p l e (rmd 4 0 0) s m args below meth c H locs 0 0 (MQ below (wQi D ct ek ad N0 X (fun r τ => r = linV σ n x ∧ τ = linM σ n x)) args s 0 0 (fr N0)) (F0 m 81 ls []) := by
        intro H locs ls hP hS hl
        refine lv_aload_n hx hb dX11_line_81 rfl (lv_at hl 0 rfl) ?_
        refine lv_aload_n hx hb dX11_line_82 rfl (lv_at hl 0 rfl) ?_
        refine lv_iload_n hx hb dX11_line_83 rfl (lv_at hl 1 rfl) ?_
        refine lv_tope (y := nI (tN (x))) h1 ?_
        refine lv_iconst (v := 0) hx hb dX11_line_84 (by decide) ?_
        refine cVie (As := [.int (nI (tN (x))), .int (nI 0)]) S G 276 (c_X11_of l (D := D) (ct := ct) (ek := ek) (ad := ad) (N0 := N0) (X := X) (F := F) (ln1 (σ 277) (sg σ 276 20 0) (tN x)) (tN (x)) (by omega) 0 (by omega)) ok_yX11_of ml_RX11_83 (by decide) oM rfl hP hS hl.1 rfl (by decide) rfl rfl (Nat.le_of_ble_eq_true rfl) ⟨Nat.zero_le _, Nat.zero_le _⟩ dX11_line_85 (fun H locs hP hS => ?_)
        refine lv_tope (y := σ 277 (6 + 5 * tN x + 0)) (by rw [LmP_r (τ := (ln1 (σ 277) (sg σ 276 20 0) (tN x))) (σ := (sg σ 276 20 0)) (by with_reducible repeat (first | exact LmP_z | exact LmP_ln0 | exact LmP_ln1 | exact LmP_ln2 | exact LmP_lnK _ | exact hlb _ (by omega) | apply LmP_put | apply LmP_num | apply LmP_lbB | exact LmP_if (LmP_up (hlb _ (by omega)) (Nat.le_succ _)) (LmP_put (hlb _ (by omega))) | exact LmP_lbC (LmP_lbB (hlb _ (by omega))) _)), th_r]) ?_
        refine rabs S rfl (by decide) hl.1 ml_RX11_86 (Nat.le_of_ble_eq_true rfl) ⟨Nat.zero_le _, Nat.zero_le _⟩ dX11_line_88 ?_
        refine cVve (As := [.int (abI (σ 277 (6 + 5 * tN x + 0)))]) S G 276 (c_X11_writes l (D := D) (ct := ct) (ek := ek) (ad := ad) (N0 := N0) (X := X) (F := F) (ln1 (σ 277) (sg σ 276 20 0) (tN x)) (abI (σ 277 (6 + 5 * tN x + 0))) (hA (tN x) (by omega)) (LmP_l (LmP_up (σ := (sg σ 276 20 0)) (by with_reducible repeat (first | exact LmP_z | exact LmP_ln0 | exact LmP_ln1 | exact LmP_ln2 | exact LmP_lnK _ | exact hlb _ (by omega) | apply LmP_put | apply LmP_num | apply LmP_lbB | exact LmP_if (LmP_up (hlb _ (by omega)) (Nat.le_succ _)) (LmP_put (hlb _ (by omega))) | exact LmP_lbC (LmP_lbB (hlb _ (by omega))) _)) (by omega)))) ok_yX11_writes ml_RX11_239 (by decide) oM rfl hP hS hl.1 rfl (by decide) rfl rfl (Nat.le_of_ble_eq_true rfl) ⟨Nat.zero_le _, Nat.zero_le _⟩ dX11_line_91 (fun H locs hP hS => ?_)
        refine lv_aload_n hx hb dX11_line_94 rfl (lv_at hl 0 rfl) ?_
        refine lv_bipush (v := 35) hx hb dX11_line_95 (by decide) ?_
        refine lv_aload_n hx hb dX11_line_97 rfl (lv_at hl 0 rfl) ?_
        refine lv_iload_n hx hb dX11_line_98 rfl (lv_at hl 1 rfl) ?_
        refine lv_tope (y := nI (tN (x))) h1 ?_
        refine lv_iconst (v := 1) hx hb dX11_line_99 (by decide) ?_
        refine cVie (As := [.int (nI (tN (x))), .int (nI 1)]) S G 276 (c_X11_of l (D := D) (ct := ct) (ek := ek) (ad := ad) (N0 := N0) (X := X) (F := F) (mlN (ln1 (σ 277) (sg σ 276 20 0) (tN x)) (abI (σ 277 (6 + 5 * tN x + 0)))) (tN (x)) (by omega) 1 (by omega)) ok_yX11_of ml_RX11_83 (by decide) oM rfl hP hS hl.1 rfl (by decide) rfl rfl (Nat.le_of_ble_eq_true rfl) ⟨Nat.zero_le _, Nat.zero_le _⟩ dX11_line_100 (fun H locs hP hS => ?_)
        refine lv_tope (y := σ 277 (6 + 5 * tN x + 1)) (by rw [LmP_r (τ := (mlN (ln1 (σ 277) (sg σ 276 20 0) (tN x)) (abI (σ 277 (6 + 5 * tN x + 0))))) (σ := (sg σ 276 20 0)) (by with_reducible repeat (first | exact LmP_z | exact LmP_ln0 | exact LmP_ln1 | exact LmP_ln2 | exact LmP_lnK _ | exact hlb _ (by omega) | apply LmP_put | apply LmP_num | apply LmP_lbB | exact LmP_if (LmP_up (hlb _ (by omega)) (Nat.le_succ _)) (LmP_put (hlb _ (by omega))) | exact LmP_lbC (LmP_lbB (hlb _ (by omega))) _)), th_r]) ?_
        refine cVve (As := [.int 35, .int (σ 277 (6 + 5 * tN x + 1))]) S G 276 (c_X11_writes_ l (D := D) (ct := ct) (ek := ek) (ad := ad) (N0 := N0) (X := X) (F := F) (mlN (ln1 (σ 277) (sg σ 276 20 0) (tN x)) (abI (σ 277 (6 + 5 * tN x + 0)))) 35 (σ 277 (6 + 5 * tN x + 1)) (by decide) (okN_w (h0 (tN x) (by omega))) (LmP_l (LmP_up (σ := (sg σ 276 20 0)) (by with_reducible repeat (first | exact LmP_z | exact LmP_ln0 | exact LmP_ln1 | exact LmP_ln2 | exact LmP_lnK _ | exact hlb _ (by omega) | apply LmP_put | apply LmP_num | apply LmP_lbB | exact LmP_if (LmP_up (hlb _ (by omega)) (Nat.le_succ _)) (LmP_put (hlb _ (by omega))) | exact LmP_lbC (LmP_lbB (hlb _ (by omega))) _)) (by omega)))) ok_yX11_writes_ ml_RX11_246 (by decide) oM rfl hP hS hl.1 rfl (by decide) rfl rfl (Nat.le_of_ble_eq_true rfl) ⟨Nat.zero_le _, Nat.zero_le _⟩ dX11_line_103 (fun H locs hP hS => ?_)
        replace hP : wP D ct ek ad X (ln2 (σ 277) (sg σ 276 20 0) (tN x)) H := hP
        refine lv_iconst (v := 0) hx hb dX11_line_106 (by decide) ?_
        refine lv_istore_n (lv' := [(2, .int 0), (0, .ref (ad 276)), (1, .int x)]) hx hb dX11_line_107 rfl hl (by decide) rfl (fun ls hl => ?_)
        have key_108 : ∀ (d k : Nat), k + d = n → ∀ (H : Heap) (locs : List Loc) (ls : Array Slot), wP D ct ek ad X (lnK (σ 277) (sg σ 276 20 0) (tN x) k) H → va_S (fr N0) s.heap H locs → lv_has ls 3 [(2, .int (nI k)), (0, .ref (ad 276)), (1, .int x)] → W p l e (rmd 4 0 0) s m args below meth c H locs 0 0 (MQ below (wQi D ct ek ad N0 X (fun r τ => r = linV σ n x ∧ τ = linM σ n x)) args s 0 0 (fr N0)) (F0 m 108 ls []) := by
          intro d
          induction d with
          | zero =>
            intro k9 hk
            obtain rfl : n = k9 := by omega
            intro  H locs ls hP hS hl
            refine lv_iload_n hx hb dX11_line_108 rfl (lv_at hl 0 rfl) ?_
            refine lv_aload_n hx hb dX11_line_109 rfl (lv_at hl 1 rfl) ?_
            refine gf S G hP 276 0 (by decide) oM rfl inX11 (by decide) fl_RX11_9 rfl rfl dX11_line_110 ?_
            refine lv_iconst (v := 0) hx hb dX11_line_113 (by decide) ?_
            refine ald S G hP 277 0 (by decide) (aM277 _) (by decide) (by omega) (by decide) dX11_line_114 ?_
            refine lv_icmp_ge (tgt := 155) hx hb dX11_line_115 (by decide) (fun c_115 => ?_) (fun c_115 => absurd (by rw [(show lnK (σ 277) (sg σ 276 20 0) (tN x) n 277 0 = nI n from by rw [LmP_r (LmP_lnK n), th_r]; exact hn)]; exact nI_le (by omega) (by omega)) c_115)
            refine lv_aload_n hx hb dX11_line_155 rfl (lv_at hl 1 rfl) ?_
            refine gf S G hP 276 9 (by decide) oM rfl inX11 (by decide) fl_RX11_236 rfl rfl dX11_line_156 ?_
            exact eI S hr hlocks hP hS dX11_line_159 (by first | (refine ⟨?_, ?_⟩ <;> simp only [linV, linM, thM, sg_sg, c_6, c_21, c_115, ↓reduceIte, if_true, if_false, eq_self]; done) | (refine ⟨?_, rfl⟩; simp only [linV, linM, thM, sg_sg, c_6, c_21, c_115, ↓reduceIte, if_true, if_false, eq_self]; done) | exact ⟨rfl, rfl⟩ | (refine ⟨?_, rfl⟩; simp [linV, linM, thM, sg_sg, c_6, c_21, c_115]; done) | (simp [linV, linM, thM, sg_sg, c_6, c_21, c_115]; done) | grind [linV, linM, thM, sg_sg])
          | succ d ih =>
            intro k hk  H locs ls hP hS hl
            have hkn : k < n := by omega
            refine lv_iload_n hx hb dX11_line_108 rfl (lv_at hl 0 rfl) ?_
            refine lv_aload_n hx hb dX11_line_109 rfl (lv_at hl 1 rfl) ?_
            refine gf S G hP 276 0 (by decide) oM rfl inX11 (by decide) fl_RX11_9 rfl rfl dX11_line_110 ?_
            refine lv_iconst (v := 0) hx hb dX11_line_113 (by decide) ?_
            refine ald S G hP 277 0 (by decide) (aM277 _) (by decide) (by omega) (by decide) dX11_line_114 ?_
            refine lv_icmp_ge (tgt := 155) hx hb dX11_line_115 (by decide) (fun c_115 => absurd c_115 (by rw [(show lnK (σ 277) (sg σ 276 20 0) (tN x) k 277 0 = nI n from by rw [LmP_r (LmP_lnK k), th_r]; exact hn)]; exact nI_ge (by omega) (by omega))) (fun c_115 => ?_)
            refine lv_aload_n hx hb dX11_line_118 rfl (lv_at hl 1 rfl) ?_
            refine lv_iload_n hx hb dX11_line_119 rfl (lv_at hl 2 rfl) ?_
            refine lv_tope (y := nI (tN (x))) h1 ?_
            refine lv_iload_n hx hb dX11_line_120 rfl (lv_at hl 0 rfl) ?_
            refine cVie (As := [.int (nI (tN (x))), .int (nI k)]) S G 276 (c_X11_weighs l (D := D) (ct := ct) (ek := ek) (ad := ad) (N0 := N0) (X := X) (F := F) (lnK (σ 277) (sg σ 276 20 0) (tN x) k) (tN (x)) (by omega) k (by omega)) ok_yX11_weighs ml_RX11_91 (by decide) oM rfl hP hS hl.1 rfl (by decide) rfl rfl (Nat.le_of_ble_eq_true rfl) ⟨Nat.zero_le _, Nat.zero_le _⟩ dX11_line_121 (fun H locs hP hS => ?_)
            refine lv_tope (y := σ 277 (36 + 6 * tN x + k)) (by rw [LmP_r (τ := (lnK (σ 277) (sg σ 276 20 0) (tN x) k)) (σ := (sg σ 276 20 0)) (by with_reducible repeat (first | exact LmP_z | exact LmP_ln0 | exact LmP_ln1 | exact LmP_ln2 | exact LmP_lnK _ | exact hlb _ (by omega) | apply LmP_put | apply LmP_num | apply LmP_lbB | exact LmP_if (LmP_up (hlb _ (by omega)) (Nat.le_succ _)) (LmP_put (hlb _ (by omega))) | exact LmP_lbC (LmP_lbB (hlb _ (by omega))) _)), th_r]) ?_
            have jn_124_3 : ∀ (H : Heap) (locs : List Loc) (ls : Array Slot), wP D ct ek ad X (lnK (σ 277) (sg σ 276 20 0) (tN x) (k + 1)) H → va_S (fr N0) s.heap H locs → lv_has ls 3 [(2, .int (nI k)), (0, .ref (ad 276)), (1, .int x)] → W p l e (rmd 4 0 0) s m args below meth c H locs 0 0 (MQ below (wQi D ct ek ad N0 X (fun r τ => r = linV σ n x ∧ τ = linM σ n x)) args s 0 0 (fr N0)) (F0 m 149 ls []) := by
              intro H locs ls hP hS hl
              refine lv_iinc (v := nI (k + 1)) (lv' := [(2, .int (nI (k + 1))), (0, .ref (ad 276)), (1, .int x)]) hx hb dX11_line_149 hl (k := 0) rfl (nI_inc _) (by decide) rfl (fun ls hl => ?_)
              refine lv_goto (tgt := 108) hx hb dX11_line_152 (by decide) ?_
              exact ih (k + 1) (by omega)  _ _ _ (wP_e hP rfl) hS (by first | (refine lv_v (lv_sub (l' := [(2, .int (nI (k + 1))), (0, .ref (ad 276)), (1, .int x)]) hl [0, 1, 2] rfl) ?_; simp [fo, linV, linM, thM, sg_sg, c_6, c_21, c_115]; done) | exact lv_sub hl [0, 1, 2] rfl)
            refine lv_if_ne (tgt := 130) hx hb dX11_line_124 (by decide) (fun c_124 => ?_) (fun c_124 => ?_)
            · refine lv_aload_n hx hb dX11_line_130 rfl (lv_at hl 1 rfl) ?_
              refine lv_bipush (v := 32) hx hb dX11_line_131 (by decide) ?_
              refine lv_iload_n hx hb dX11_line_133 rfl (lv_at hl 0 rfl) ?_
              refine cVve (As := [.int 32, .int (nI k)]) S G 276 (c_X11_writes_ l (D := D) (ct := ct) (ek := ek) (ad := ad) (N0 := N0) (X := X) (F := F) (lnK (σ 277) (sg σ 276 20 0) (tN x) k) 32 (nI k) (by decide) (nI_w (by omega)) (LmP_l (LmP_up (σ := (sg σ 276 20 0)) (by with_reducible repeat (first | exact LmP_z | exact LmP_ln0 | exact LmP_ln1 | exact LmP_ln2 | exact LmP_lnK _ | exact hlb _ (by omega) | apply LmP_put | apply LmP_num | apply LmP_lbB | exact LmP_if (LmP_up (hlb _ (by omega)) (Nat.le_succ _)) (LmP_put (hlb _ (by omega))) | exact LmP_lbC (LmP_lbB (hlb _ (by omega))) _)) (by omega)))) ok_yX11_writes_ ml_RX11_246 (by decide) oM rfl hP hS hl.1 rfl (by decide) rfl rfl (Nat.le_of_ble_eq_true rfl) ⟨Nat.zero_le _, Nat.zero_le _⟩ dX11_line_134 (fun H locs hP hS => ?_)
              refine lv_aload_n hx hb dX11_line_137 rfl (lv_at hl 1 rfl) ?_
              refine lv_bipush (v := 42) hx hb dX11_line_138 (by decide) ?_
              refine lv_aload_n hx hb dX11_line_140 rfl (lv_at hl 1 rfl) ?_
              refine lv_iload_n hx hb dX11_line_141 rfl (lv_at hl 2 rfl) ?_
              refine lv_tope (y := nI (tN (x))) h1 ?_
              refine lv_iload_n hx hb dX11_line_142 rfl (lv_at hl 0 rfl) ?_
              refine cVie (As := [.int (nI (tN (x))), .int (nI k)]) S G 276 (c_X11_weighs l (D := D) (ct := ct) (ek := ek) (ad := ad) (N0 := N0) (X := X) (F := F) (mlN (mlM (lnK (σ 277) (sg σ 276 20 0) (tN x) k) 32) (nI k)) (tN (x)) (by omega) k (by omega)) ok_yX11_weighs ml_RX11_91 (by decide) oM rfl hP hS hl.1 rfl (by decide) rfl rfl (Nat.le_of_ble_eq_true rfl) ⟨Nat.zero_le _, Nat.zero_le _⟩ dX11_line_143 (fun H locs hP hS => ?_)
              refine lv_tope (y := σ 277 (36 + 6 * tN x + k)) (by rw [LmP_r (τ := (mlN (mlM (lnK (σ 277) (sg σ 276 20 0) (tN x) k) 32) (nI k))) (σ := (sg σ 276 20 0)) (by with_reducible repeat (first | exact LmP_z | exact LmP_ln0 | exact LmP_ln1 | exact LmP_ln2 | exact LmP_lnK _ | exact hlb _ (by omega) | apply LmP_put | apply LmP_num | apply LmP_lbB | exact LmP_if (LmP_up (hlb _ (by omega)) (Nat.le_succ _)) (LmP_put (hlb _ (by omega))) | exact LmP_lbC (LmP_lbB (hlb _ (by omega))) _)), th_r]) ?_
              refine cVve (As := [.int 42, .int (σ 277 (36 + 6 * tN x + k))]) S G 276 (c_X11_writes_ l (D := D) (ct := ct) (ek := ek) (ad := ad) (N0 := N0) (X := X) (F := F) (mlN (mlM (lnK (σ 277) (sg σ 276 20 0) (tN x) k) 32) (nI k)) 42 (σ 277 (36 + 6 * tN x + k)) (by decide) (okN_w (h9 (tN x) k (by omega) (by omega))) (LmP_l (LmP_up (σ := (sg σ 276 20 0)) (by with_reducible repeat (first | exact LmP_z | exact LmP_ln0 | exact LmP_ln1 | exact LmP_ln2 | exact LmP_lnK _ | exact hlb _ (by omega) | apply LmP_put | apply LmP_num | apply LmP_lbB | exact LmP_if (LmP_up (hlb _ (by omega)) (Nat.le_succ _)) (LmP_put (hlb _ (by omega))) | exact LmP_lbC (LmP_lbB (hlb _ (by omega))) _)) (by omega)))) ok_yX11_writes_ ml_RX11_246 (by decide) oM rfl hP hS hl.1 rfl (by decide) rfl rfl (Nat.le_of_ble_eq_true rfl) ⟨Nat.zero_le _, Nat.zero_le _⟩ dX11_line_146 (fun H locs hP hS => ?_)
              exact jn_124_3 _ _ _ (wP_e hP (by first | exact (if_pos c_124).symm | exact (if_neg c_124).symm)) hS (lv_sub hl [0, 1, 2] rfl)
            · refine lv_goto (tgt := 149) hx hb dX11_line_127 (by decide) ?_
              exact jn_124_3 _ _ _ (wP_e hP (by first | exact (if_pos c_124).symm | exact (if_neg c_124).symm)) hS (lv_sub hl [0, 1, 2] rfl)
        exact key_108 n 0 (by omega)  _ _ _ (wP_e hP rfl) hS (lv_sub hl [0, 1, 2] rfl)
      refine lv_if_eq (tgt := 81) hx hb dX11_line_58 (by decide) (fun c_58 => ?_) (fun c_58 => ?_)
      · exact jn_58_2 _ _ _ (wP_e hP (by first | rw [ln1, if_pos c_58] | rw [ln1, if_neg c_58])) hS (lv_sub hl [0, 1] rfl)
      · refine lv_aload_n hx hb dX11_line_61 rfl (lv_at hl 0 rfl) ?_
        refine lv_aload_n hx hb dX11_line_62 rfl (lv_at hl 0 rfl) ?_
        refine lv_iload_n hx hb dX11_line_63 rfl (lv_at hl 1 rfl) ?_
        refine lv_tope (y := nI (tN (x))) h1 ?_
        refine lv_iconst (v := 0) hx hb dX11_line_64 (by decide) ?_
        refine cVie (As := [.int (nI (tN (x))), .int (nI 0)]) S G 276 (c_X11_of l (D := D) (ct := ct) (ek := ek) (ad := ad) (N0 := N0) (X := X) (F := F) (ln0 (σ 277) (sg σ 276 20 0) (tN x)) (tN (x)) (by omega) 0 (by omega)) ok_yX11_of ml_RX11_83 (by decide) oM rfl hP hS hl.1 rfl (by decide) rfl rfl (Nat.le_of_ble_eq_true rfl) ⟨Nat.zero_le _, Nat.zero_le _⟩ dX11_line_65 (fun H locs hP hS => ?_)
        refine lv_tope (y := σ 277 (6 + 5 * tN x + 0)) (by rw [LmP_r (τ := (ln0 (σ 277) (sg σ 276 20 0) (tN x))) (σ := (sg σ 276 20 0)) (by with_reducible repeat (first | exact LmP_z | exact LmP_ln0 | exact LmP_ln1 | exact LmP_ln2 | exact LmP_lnK _ | exact hlb _ (by omega) | apply LmP_put | apply LmP_num | apply LmP_lbB | exact LmP_if (LmP_up (hlb _ (by omega)) (Nat.le_succ _)) (LmP_put (hlb _ (by omega))) | exact LmP_lbC (LmP_lbB (hlb _ (by omega))) _)), th_r]) ?_
        have jn_68_4 : ∀ (H : Heap) (locs : List Loc) (ls : Array Slot), wP D ct ek ad X (ln0 (σ 277) (sg σ 276 20 0) (tN x)) H → va_S (fr N0) s.heap H locs → lv_has ls 3 [(0, .ref (ad 276)), (1, .int x)] → W p l e (rmd 4 0 0) s m args below meth c H locs 0 0 (MQ below (wQi D ct ek ad N0 X (fun r τ => r = linV σ n x ∧ τ = linM σ n x)) args s 0 0 (fr N0)) (F0 m 78 ls [.int (if 0 ≤ σ 277 (6 + 5 * tN x + 0) then 43 else 45), .ref (ad 276)]) := by
          intro H locs ls hP hS hl
          refine cVve (As := [.int (if 0 ≤ σ 277 (6 + 5 * tN x + 0) then 43 else 45)]) S G 276 (c_X11_signs l (D := D) (ct := ct) (ek := ek) (ad := ad) (N0 := N0) (X := X) (F := F) (ln0 (σ 277) (sg σ 276 20 0) (tN x)) (if 0 ≤ σ 277 (6 + 5 * tN x + 0) then 43 else 45) (by split <;> rfl) (LmP_l (LmP_up (σ := (sg σ 276 20 0)) (by with_reducible repeat (first | exact LmP_z | exact LmP_ln0 | exact LmP_ln1 | exact LmP_ln2 | exact LmP_lnK _ | exact hlb _ (by omega) | apply LmP_put | apply LmP_num | apply LmP_lbB | exact LmP_if (LmP_up (hlb _ (by omega)) (Nat.le_succ _)) (LmP_put (hlb _ (by omega))) | exact LmP_lbC (LmP_lbB (hlb _ (by omega))) _)) (by omega)))) ok_yX11_signs ml_RX11_242 (by decide) oM rfl hP hS hl.1 rfl (by decide) rfl rfl (Nat.le_of_ble_eq_true rfl) ⟨Nat.zero_le _, Nat.zero_le _⟩ dX11_line_78 (fun H locs hP hS => ?_)
          exact jn_58_2 _ _ _ (wP_e hP (by first | rw [ln1, if_pos c_58] | rw [ln1, if_neg c_58])) hS (lv_sub hl [0, 1] rfl)
        refine lv_if_ge (tgt := 76) hx hb dX11_line_68 (by decide) (fun c_68 => ?_) (fun c_68 => ?_)
        · refine lv_bipush (v := 43) hx hb dX11_line_76 (by decide) ?_
          refine lv_tope (y := if 0 ≤ σ 277 (6 + 5 * tN x + 0) then 43 else 45) (by first | (simp only [c_6, c_21, c_58, c_68, ↓reduceIte, if_true, if_false]; done) | (simp [c_6, c_21, c_58, c_68]; done) | rfl) ?_
          exact jn_68_4 _ _ _ hP hS (lv_sub hl [0, 1] rfl)
        · refine lv_bipush (v := 45) hx hb dX11_line_71 (by decide) ?_
          refine lv_goto (tgt := 78) hx hb dX11_line_73 (by decide) ?_
          refine lv_tope (y := if 0 ≤ σ 277 (6 + 5 * tN x + 0) then 43 else 45) (by first | (simp only [c_6, c_21, c_58, c_68, ↓reduceIte, if_true, if_false]; done) | (simp [c_6, c_21, c_58, c_68]; done) | rfl) ?_
          exact jn_68_4 _ _ _ hP hS (lv_sub hl [0, 1] rfl)
    refine lv_icmp_ne (tgt := 47) hx hb dX11_line_39 (by decide) (fun c_39 => ?_) (fun c_39 => ?_)
    · refine lv_bipush (v := 111) hx hb dX11_line_47 (by decide) ?_
      refine lv_tope (y := if σ 277 (6 + 5 * tN x + 2) = 1 then 115 else 111) (by first | (simp only [c_6, c_21, c_39, ↓reduceIte, if_true, if_false]; done) | (simp [c_6, c_21, c_39]; done) | rfl) ?_
      exact jn_39_1 _ _ _ hP hS (lv_sub hl [0, 1] rfl)
    · refine lv_bipush (v := 115) hx hb dX11_line_42 (by decide) ?_
      refine lv_goto (tgt := 49) hx hb dX11_line_44 (by decide) ?_
      refine lv_tope (y := if σ 277 (6 + 5 * tN x + 2) = 1 then 115 else 111) (by first | (simp only [c_6, c_21, c_39, ↓reduceIte, if_true, if_false]; done) | (simp [c_6, c_21, c_39]; done) | rfl) ?_
      exact jn_39_1 _ _ _ hP hS (lv_sub hl [0, 1] rfl)

theorem ok_yX11_beams : COK RX11 yX11_beams cX11_beams 3 (some .int) 0 := ⟨im_yX11_beams, se_RX11_yX11_beams, in_RX11, co_yX11_beams, ⟨rfl, by decide +kernel, by decide +kernel, by decide +kernel⟩, by decide⟩
set_option maxHeartbeats 1000000 in
set_option maxRecDepth 100000 in
theorem c_X11_beams (l : Launch) {D : va_G} {ct : Nat → ClassId} {ek ad : Nat → Nat} {N0 : Nat} {X : va_W} {F : State → Prop} (σ : Mem) (n : Nat) (mb : Nat) (hR : RowOK (σ 277) n mb) (hlm : ∀ q, q < mb → σ 277 (72 + 4 * q + 2) = nI (tN (σ 277 (72 + 4 * q + 2))) ∧ tN (σ 277 (72 + 4 * q + 2)) ≤ 99) (hck : ∀ q, q < mb → σ 277 (72 + 4 * q + 3) = nI (tN (σ 277 (72 + 4 * q + 3))) ∧ tN (σ 277 (72 + 4 * q + 3)) ≤ 9) : MI l yX11_beams cX11_beams 3 (some .int) 4 D ct ek ad N0 X F [.ref (ad 276)] σ (fun r τ => r = lbM (σ 277) (thM σ 0) mb 276 9 ∧ τ = lbM (σ 277) (thM σ 0) mb) := by
  refine ms0 (own := RX11) (by decide) rfl (Nat.le_of_ble_eq_true rfl) (fun p e s m args below meth c S hr hlocks hnm G hP hS ls hl => ?_)
  have hx := S.1
  have hb := S.2.1
  replace hl : lv_has ls 3 [(0, .ref (ad 276))] := hl
  have hn := hR.1
  have hn6 := hR.2.1
  have hm := hR.2.2.1
  have hm6 := hR.2.2.2.1
  have hBq := hR.2.2.2.2.2.2
  have hlb : ∀ k, k ≤ mb → LmP (lbM (σ 277) (sg σ 276 20 0) k) (sg σ 276 20 0) (18 * k) := fun k hk => LmP_lbM (fun q hq => (hck q hq).2) k hk
  refine lv_aload_n hx hb dX11_beams_0 rfl (lv_at hl 0 rfl) ?_
  refine lv_iconst (v := 0) hx hb dX11_beams_1 (by decide) ?_
  refine pf S G hP hS 276 20 (x := 0) tyX11 tyX11_ok nmX11 (by decide) oM rfl inX11 (by decide) fl_RX11_42 rfl rfl rfl rfl (Nat.le_of_ble_eq_true rfl) oM dX11_beams_2 (fun H locs hP hS => ?_)
  refine lv_aload_n hx hb dX11_beams_5 rfl (lv_at hl 0 rfl) ?_
  refine lv_iconst (v := 0) hx hb dX11_beams_6 (by decide) ?_
  refine pf S G hP hS 276 9 (x := 0) tyX11 tyX11_ok nmX11 (by decide) oM rfl inX11 (by decide) fl_RX11_236 rfl rfl rfl rfl (Nat.le_of_ble_eq_true rfl) oM dX11_beams_7 (fun H locs hP hS => ?_)
  refine lv_iconst (v := 0) hx hb dX11_beams_10 (by decide) ?_
  refine lv_istore_n (lv' := [(1, .int 0), (0, .ref (ad 276))]) hx hb dX11_beams_11 rfl hl (by decide) rfl (fun ls hl => ?_)
  have key_12 : ∀ (d k : Nat), k + d = mb → ∀ (H : Heap) (locs : List Loc) (ls : Array Slot), wP D ct ek ad X (lbM (σ 277) (sg σ 276 20 0) k) H → va_S (fr N0) s.heap H locs → lv_has ls 3 [(1, .int (nI k)), (0, .ref (ad 276))] → W p l e (rmd 4 0 0) s m args below meth c H locs 0 0 (MQ below (wQi D ct ek ad N0 X (fun r τ => r = lbM (σ 277) (thM σ 0) mb 276 9 ∧ τ = lbM (σ 277) (thM σ 0) mb)) args s 0 0 (fr N0)) (F0 m 12 ls []) := by
    intro d
    induction d with
    | zero =>
      intro k9 hk
      obtain rfl : mb = k9 := by omega
      intro  H locs ls hP hS hl
      refine lv_iload_n hx hb dX11_beams_12 rfl (lv_at hl 0 rfl) ?_
      refine lv_aload_n hx hb dX11_beams_13 rfl (lv_at hl 1 rfl) ?_
      refine gf S G hP 276 0 (by decide) oM rfl inX11 (by decide) fl_RX11_9 rfl rfl dX11_beams_14 ?_
      refine lv_iconst (v := 1) hx hb dX11_beams_17 (by decide) ?_
      refine ald S G hP 277 1 (by decide) (aM277 _) (by decide) (by omega) (by decide) dX11_beams_18 ?_
      refine lv_icmp_ge (tgt := 96) hx hb dX11_beams_19 (by decide) (fun c_19 => ?_) (fun c_19 => absurd (by rw [(show lbM (σ 277) (sg σ 276 20 0) mb 277 1 = nI mb from by rw [LmP_r (hlb mb (by omega)), th_r]; exact hm)]; exact nI_le (by omega) (by omega)) c_19)
      refine lv_aload_n hx hb dX11_beams_96 rfl (lv_at hl 1 rfl) ?_
      refine gf S G hP 276 9 (by decide) oM rfl inX11 (by decide) fl_RX11_236 rfl rfl dX11_beams_97 ?_
      exact eI S hr hlocks hP hS dX11_beams_100 (by first | (refine ⟨?_, ?_⟩ <;> simp only [thM, c_19, ↓reduceIte, if_true, if_false, eq_self]; done) | (refine ⟨?_, rfl⟩; simp only [thM, c_19, ↓reduceIte, if_true, if_false, eq_self]; done) | exact ⟨rfl, rfl⟩ | (refine ⟨?_, rfl⟩; simp [thM, c_19]; done) | (simp [thM, c_19]; done) | grind [thM])
    | succ d ih =>
      intro k hk  H locs ls hP hS hl
      have hkn : k < mb := by omega
      have hq9 := (hck k hkn).2
      refine lv_iload_n hx hb dX11_beams_12 rfl (lv_at hl 0 rfl) ?_
      refine lv_aload_n hx hb dX11_beams_13 rfl (lv_at hl 1 rfl) ?_
      refine gf S G hP 276 0 (by decide) oM rfl inX11 (by decide) fl_RX11_9 rfl rfl dX11_beams_14 ?_
      refine lv_iconst (v := 1) hx hb dX11_beams_17 (by decide) ?_
      refine ald S G hP 277 1 (by decide) (aM277 _) (by decide) (by omega) (by decide) dX11_beams_18 ?_
      refine lv_icmp_ge (tgt := 96) hx hb dX11_beams_19 (by decide) (fun c_19 => absurd c_19 (by rw [(show lbM (σ 277) (sg σ 276 20 0) k 277 1 = nI mb from by rw [LmP_r (hlb k (by omega)), th_r]; exact hm)]; exact nI_ge (by omega) (by omega))) (fun c_19 => ?_)
      refine lv_iload_n hx hb dX11_beams_22 rfl (lv_at hl 0 rfl) ?_
      have jn_23_1 : ∀ (H : Heap) (locs : List Loc) (ls : Array Slot), wP D ct ek ad X (if nI k ≤ 0 then lbM (σ 277) (sg σ 276 20 0) k else mlM (lbM (σ 277) (sg σ 276 20 0) k) 32) H → va_S (fr N0) s.heap H locs → lv_has ls 3 [(1, .int (nI k)), (0, .ref (ad 276))] → W p l e (rmd 4 0 0) s m args below meth c H locs 0 0 (MQ below (wQi D ct ek ad N0 X (fun r τ => r = lbM (σ 277) (thM σ 0) mb 276 9 ∧ τ = lbM (σ 277) (thM σ 0) mb)) args s 0 0 (fr N0)) (F0 m 32 ls []) := by
        intro H locs ls hP hS hl
        refine lv_aload_n hx hb dX11_beams_32 rfl (lv_at hl 1 rfl) ?_
        refine lv_aload_n hx hb dX11_beams_33 rfl (lv_at hl 1 rfl) ?_
        refine lv_iload_n hx hb dX11_beams_34 rfl (lv_at hl 0 rfl) ?_
        refine lv_iconst (v := 0) hx hb dX11_beams_35 (by decide) ?_
        refine cVie (As := [.int (nI k), .int (nI 0)]) S G 276 (c_X11_beam l (D := D) (ct := ct) (ek := ek) (ad := ad) (N0 := N0) (X := X) (F := F) (if nI k ≤ 0 then lbM (σ 277) (sg σ 276 20 0) k else mlM (lbM (σ 277) (sg σ 276 20 0) k) 32) k (by omega) 0 (by omega)) ok_yX11_beam ml_RX11_79 (by decide) oM rfl hP hS hl.1 rfl (by decide) rfl rfl (Nat.le_of_ble_eq_true rfl) ⟨Nat.zero_le _, Nat.zero_le _⟩ dX11_beams_36 (fun H locs hP hS => ?_)
        refine lv_tope (y := σ 277 (72 + 4 * k + 0)) (by rw [LmP_r (τ := (if nI k ≤ 0 then lbM (σ 277) (sg σ 276 20 0) k else mlM (lbM (σ 277) (sg σ 276 20 0) k) 32)) (σ := (sg σ 276 20 0)) (by with_reducible repeat (first | exact LmP_z | exact LmP_ln0 | exact LmP_ln1 | exact LmP_ln2 | exact LmP_lnK _ | exact hlb _ (by omega) | apply LmP_put | apply LmP_num | apply LmP_lbB | exact LmP_if (LmP_up (hlb _ (by omega)) (Nat.le_succ _)) (LmP_put (hlb _ (by omega))) | exact LmP_lbC (LmP_lbB (hlb _ (by omega))) _)), th_r]) ?_
        refine cVve (As := [.int (σ 277 (72 + 4 * k + 0))]) S G 276 (c_X11_writes l (D := D) (ct := ct) (ek := ek) (ad := ad) (N0 := N0) (X := X) (F := F) (if nI k ≤ 0 then lbM (σ 277) (sg σ 276 20 0) k else mlM (lbM (σ 277) (sg σ 276 20 0) k) 32) (σ 277 (72 + 4 * k + 0)) (w6_w (hBq k (by omega)).1 (by omega)) (LmP_l (LmP_up (σ := (sg σ 276 20 0)) (by with_reducible repeat (first | exact LmP_z | exact LmP_ln0 | exact LmP_ln1 | exact LmP_ln2 | exact LmP_lnK _ | exact hlb _ (by omega) | apply LmP_put | apply LmP_num | apply LmP_lbB | exact LmP_if (LmP_up (hlb _ (by omega)) (Nat.le_succ _)) (LmP_put (hlb _ (by omega))) | exact LmP_lbC (LmP_lbB (hlb _ (by omega))) _)) (by omega)))) ok_yX11_writes ml_RX11_239 (by decide) oM rfl hP hS hl.1 rfl (by decide) rfl rfl (Nat.le_of_ble_eq_true rfl) ⟨Nat.zero_le _, Nat.zero_le _⟩ dX11_beams_39 (fun H locs hP hS => ?_)
        refine lv_aload_n hx hb dX11_beams_42 rfl (lv_at hl 1 rfl) ?_
        refine lv_bipush (v := 45) hx hb dX11_beams_43 (by decide) ?_
        refine lv_aload_n hx hb dX11_beams_45 rfl (lv_at hl 1 rfl) ?_
        refine lv_iload_n hx hb dX11_beams_46 rfl (lv_at hl 0 rfl) ?_
        refine lv_iconst (v := 1) hx hb dX11_beams_47 (by decide) ?_
        refine cVie (As := [.int (nI k), .int (nI 1)]) S G 276 (c_X11_beam l (D := D) (ct := ct) (ek := ek) (ad := ad) (N0 := N0) (X := X) (F := F) (mlN (if nI k ≤ 0 then lbM (σ 277) (sg σ 276 20 0) k else mlM (lbM (σ 277) (sg σ 276 20 0) k) 32) (σ 277 (72 + 4 * k + 0))) k (by omega) 1 (by omega)) ok_yX11_beam ml_RX11_79 (by decide) oM rfl hP hS hl.1 rfl (by decide) rfl rfl (Nat.le_of_ble_eq_true rfl) ⟨Nat.zero_le _, Nat.zero_le _⟩ dX11_beams_48 (fun H locs hP hS => ?_)
        refine lv_tope (y := σ 277 (72 + 4 * k + 1)) (by rw [LmP_r (τ := (mlN (if nI k ≤ 0 then lbM (σ 277) (sg σ 276 20 0) k else mlM (lbM (σ 277) (sg σ 276 20 0) k) 32) (σ 277 (72 + 4 * k + 0)))) (σ := (sg σ 276 20 0)) (by with_reducible repeat (first | exact LmP_z | exact LmP_ln0 | exact LmP_ln1 | exact LmP_ln2 | exact LmP_lnK _ | exact hlb _ (by omega) | apply LmP_put | apply LmP_num | apply LmP_lbB | exact LmP_if (LmP_up (hlb _ (by omega)) (Nat.le_succ _)) (LmP_put (hlb _ (by omega))) | exact LmP_lbC (LmP_lbB (hlb _ (by omega))) _)), th_r]) ?_
        refine cVve (As := [.int 45, .int (σ 277 (72 + 4 * k + 1))]) S G 276 (c_X11_writes_ l (D := D) (ct := ct) (ek := ek) (ad := ad) (N0 := N0) (X := X) (F := F) (mlN (if nI k ≤ 0 then lbM (σ 277) (sg σ 276 20 0) k else mlM (lbM (σ 277) (sg σ 276 20 0) k) 32) (σ 277 (72 + 4 * k + 0))) 45 (σ 277 (72 + 4 * k + 1)) (by decide) (w6_w (hBq k (by omega)).2 (by omega)) (LmP_l (LmP_up (σ := (sg σ 276 20 0)) (by with_reducible repeat (first | exact LmP_z | exact LmP_ln0 | exact LmP_ln1 | exact LmP_ln2 | exact LmP_lnK _ | exact hlb _ (by omega) | apply LmP_put | apply LmP_num | apply LmP_lbB | exact LmP_if (LmP_up (hlb _ (by omega)) (Nat.le_succ _)) (LmP_put (hlb _ (by omega))) | exact LmP_lbC (LmP_lbB (hlb _ (by omega))) _)) (by omega)))) ok_yX11_writes_ ml_RX11_246 (by decide) oM rfl hP hS hl.1 rfl (by decide) rfl rfl (Nat.le_of_ble_eq_true rfl) ⟨Nat.zero_le _, Nat.zero_le _⟩ dX11_beams_51 (fun H locs hP hS => ?_)
        refine lv_aload_n hx hb dX11_beams_54 rfl (lv_at hl 1 rfl) ?_
        refine lv_bipush (v := 60) hx hb dX11_beams_55 (by decide) ?_
        refine lv_aload_n hx hb dX11_beams_57 rfl (lv_at hl 1 rfl) ?_
        refine lv_iload_n hx hb dX11_beams_58 rfl (lv_at hl 0 rfl) ?_
        refine lv_iconst (v := 2) hx hb dX11_beams_59 (by decide) ?_
        refine cVie (As := [.int (nI k), .int (nI 2)]) S G 276 (c_X11_beam l (D := D) (ct := ct) (ek := ek) (ad := ad) (N0 := N0) (X := X) (F := F) (mlN (mlM (mlN (if nI k ≤ 0 then lbM (σ 277) (sg σ 276 20 0) k else mlM (lbM (σ 277) (sg σ 276 20 0) k) 32) (σ 277 (72 + 4 * k + 0))) 45) (σ 277 (72 + 4 * k + 1))) k (by omega) 2 (by omega)) ok_yX11_beam ml_RX11_79 (by decide) oM rfl hP hS hl.1 rfl (by decide) rfl rfl (Nat.le_of_ble_eq_true rfl) ⟨Nat.zero_le _, Nat.zero_le _⟩ dX11_beams_60 (fun H locs hP hS => ?_)
        refine lv_tope (y := σ 277 (72 + 4 * k + 2)) (by rw [LmP_r (τ := (mlN (mlM (mlN (if nI k ≤ 0 then lbM (σ 277) (sg σ 276 20 0) k else mlM (lbM (σ 277) (sg σ 276 20 0) k) 32) (σ 277 (72 + 4 * k + 0))) 45) (σ 277 (72 + 4 * k + 1)))) (σ := (sg σ 276 20 0)) (by with_reducible repeat (first | exact LmP_z | exact LmP_ln0 | exact LmP_ln1 | exact LmP_ln2 | exact LmP_lnK _ | exact hlb _ (by omega) | apply LmP_put | apply LmP_num | apply LmP_lbB | exact LmP_if (LmP_up (hlb _ (by omega)) (Nat.le_succ _)) (LmP_put (hlb _ (by omega))) | exact LmP_lbC (LmP_lbB (hlb _ (by omega))) _)), th_r]) ?_
        refine cVve (As := [.int 60, .int (σ 277 (72 + 4 * k + 2))]) S G 276 (c_X11_writes_ l (D := D) (ct := ct) (ek := ek) (ad := ad) (N0 := N0) (X := X) (F := F) (mlN (mlM (mlN (if nI k ≤ 0 then lbM (σ 277) (sg σ 276 20 0) k else mlM (lbM (σ 277) (sg σ 276 20 0) k) 32) (σ 277 (72 + 4 * k + 0))) 45) (σ 277 (72 + 4 * k + 1))) 60 (σ 277 (72 + 4 * k + 2)) (by decide) (hlm k (by omega)) (LmP_l (LmP_up (σ := (sg σ 276 20 0)) (by with_reducible repeat (first | exact LmP_z | exact LmP_ln0 | exact LmP_ln1 | exact LmP_ln2 | exact LmP_lnK _ | exact hlb _ (by omega) | apply LmP_put | apply LmP_num | apply LmP_lbB | exact LmP_if (LmP_up (hlb _ (by omega)) (Nat.le_succ _)) (LmP_put (hlb _ (by omega))) | exact LmP_lbC (LmP_lbB (hlb _ (by omega))) _)) (by omega)))) ok_yX11_writes_ ml_RX11_246 (by decide) oM rfl hP hS hl.1 rfl (by decide) rfl rfl (Nat.le_of_ble_eq_true rfl) ⟨Nat.zero_le _, Nat.zero_le _⟩ dX11_beams_63 (fun H locs hP hS => ?_)
        refine lv_iconst (v := 0) hx hb dX11_beams_66 (by decide) ?_
        refine lv_istore_n (lv' := [(2, .int 0), (1, .int (nI k)), (0, .ref (ad 276))]) hx hb dX11_beams_67 rfl hl (by decide) rfl (fun ls hl => ?_)
        have key_68 : ∀ (d2 t : Nat), t + d2 = tN (σ 277 (72 + 4 * k + 3)) → ∀ (H : Heap) (locs : List Loc) (ls : Array Slot), wP D ct ek ad X (lbC (lbB (σ 277) k (lbM (σ 277) (sg σ 276 20 0) k)) t) H → va_S (fr N0) s.heap H locs → lv_has ls 3 [(2, .int (nI t)), (1, .int (nI k)), (0, .ref (ad 276))] → W p l e (rmd 4 0 0) s m args below meth c H locs 0 0 (MQ below (wQi D ct ek ad N0 X (fun r τ => r = lbM (σ 277) (thM σ 0) mb 276 9 ∧ τ = lbM (σ 277) (thM σ 0) mb)) args s 0 0 (fr N0)) (F0 m 68 ls []) := by
          intro d2
          induction d2 with
          | zero =>
            intro k9 hk
            obtain rfl : tN (σ 277 (72 + 4 * k + 3)) = k9 := by omega
            intro  H locs ls hP hS hl
            refine lv_iload_n hx hb dX11_beams_68 rfl (lv_at hl 0 rfl) ?_
            refine lv_aload_n hx hb dX11_beams_69 rfl (lv_at hl 2 rfl) ?_
            refine lv_iload_n hx hb dX11_beams_70 rfl (lv_at hl 1 rfl) ?_
            refine lv_iconst (v := 3) hx hb dX11_beams_71 (by decide) ?_
            refine cVie (As := [.int (nI k), .int (nI 3)]) S G 276 (c_X11_beam l (D := D) (ct := ct) (ek := ek) (ad := ad) (N0 := N0) (X := X) (F := F) (lbC (lbB (σ 277) k (lbM (σ 277) (sg σ 276 20 0) k)) (tN (σ 277 (72 + 4 * k + 3)))) k (by omega) 3 (by omega)) ok_yX11_beam ml_RX11_79 (by decide) oM rfl hP hS hl.1 rfl (by decide) rfl rfl (Nat.le_of_ble_eq_true rfl) ⟨Nat.zero_le _, Nat.zero_le _⟩ dX11_beams_72 (fun H locs hP hS => ?_)
            refine lv_tope (y := nI (tN (σ 277 (72 + 4 * k + 3)))) (by rw [LmP_r (τ := (lbC (lbB (σ 277) k (lbM (σ 277) (sg σ 276 20 0) k)) (tN (σ 277 (72 + 4 * k + 3))))) (σ := (sg σ 276 20 0)) (by with_reducible repeat (first | exact LmP_z | exact LmP_ln0 | exact LmP_ln1 | exact LmP_ln2 | exact LmP_lnK _ | exact hlb _ (by omega) | apply LmP_put | apply LmP_num | apply LmP_lbB | exact LmP_if (LmP_up (hlb _ (by omega)) (Nat.le_succ _)) (LmP_put (hlb _ (by omega))) | exact LmP_lbC (LmP_lbB (hlb _ (by omega))) _)), th_r]; exact (hck k (by omega)).1) ?_
            refine lv_icmp_ge (tgt := 90) hx hb dX11_beams_75 (by decide) (fun c_75 => ?_) (fun c_75 => absurd (nI_le (by omega) (by omega)) c_75)
            refine lv_iinc (v := nI (k + 1)) (lv' := [(1, .int (nI (k + 1))), (2, .int (nI (tN (σ 277 (72 + 4 * k + 3))))), (0, .ref (ad 276))]) hx hb dX11_beams_90 hl (k := 1) rfl (nI_inc _) (by decide) rfl (fun ls hl => ?_)
            refine lv_goto (tgt := 12) hx hb dX11_beams_93 (by decide) ?_
            exact ih (k + 1) (by omega)  _ _ _ (wP_e hP rfl) hS (by first | (refine lv_v (lv_sub (l' := [(1, .int (nI (k + 1))), (0, .ref (ad 276))]) hl [0, 2] rfl) ?_; simp [fo, thM, c_19, c_75]; done) | exact lv_sub hl [0, 2] rfl)
          | succ d2 ih =>
            intro t hk  H locs ls hP hS hl
            have htn : t < tN (σ 277 (72 + 4 * k + 3)) := by omega
            refine lv_iload_n hx hb dX11_beams_68 rfl (lv_at hl 0 rfl) ?_
            refine lv_aload_n hx hb dX11_beams_69 rfl (lv_at hl 2 rfl) ?_
            refine lv_iload_n hx hb dX11_beams_70 rfl (lv_at hl 1 rfl) ?_
            refine lv_iconst (v := 3) hx hb dX11_beams_71 (by decide) ?_
            refine cVie (As := [.int (nI k), .int (nI 3)]) S G 276 (c_X11_beam l (D := D) (ct := ct) (ek := ek) (ad := ad) (N0 := N0) (X := X) (F := F) (lbC (lbB (σ 277) k (lbM (σ 277) (sg σ 276 20 0) k)) t) k (by omega) 3 (by omega)) ok_yX11_beam ml_RX11_79 (by decide) oM rfl hP hS hl.1 rfl (by decide) rfl rfl (Nat.le_of_ble_eq_true rfl) ⟨Nat.zero_le _, Nat.zero_le _⟩ dX11_beams_72 (fun H locs hP hS => ?_)
            refine lv_tope (y := nI (tN (σ 277 (72 + 4 * k + 3)))) (by rw [LmP_r (τ := (lbC (lbB (σ 277) k (lbM (σ 277) (sg σ 276 20 0) k)) t)) (σ := (sg σ 276 20 0)) (by with_reducible repeat (first | exact LmP_z | exact LmP_ln0 | exact LmP_ln1 | exact LmP_ln2 | exact LmP_lnK _ | exact hlb _ (by omega) | apply LmP_put | apply LmP_num | apply LmP_lbB | exact LmP_if (LmP_up (hlb _ (by omega)) (Nat.le_succ _)) (LmP_put (hlb _ (by omega))) | exact LmP_lbC (LmP_lbB (hlb _ (by omega))) _)), th_r]; exact (hck k (by omega)).1) ?_
            refine lv_icmp_ge (tgt := 90) hx hb dX11_beams_75 (by decide) (fun c_75 => absurd c_75 (nI_ge (by omega) (by omega))) (fun c_75 => ?_)
            refine lv_aload_n hx hb dX11_beams_78 rfl (lv_at hl 2 rfl) ?_
            refine lv_bipush (v := 33) hx hb dX11_beams_79 (by decide) ?_
            refine cVve (As := [.int 33]) S G 276 (c_X11_signs l (D := D) (ct := ct) (ek := ek) (ad := ad) (N0 := N0) (X := X) (F := F) (lbC (lbB (σ 277) k (lbM (σ 277) (sg σ 276 20 0) k)) t) 33 (by decide) (LmP_l (LmP_up (σ := (sg σ 276 20 0)) (by with_reducible repeat (first | exact LmP_z | exact LmP_ln0 | exact LmP_ln1 | exact LmP_ln2 | exact LmP_lnK _ | exact hlb _ (by omega) | apply LmP_put | apply LmP_num | apply LmP_lbB | exact LmP_if (LmP_up (hlb _ (by omega)) (Nat.le_succ _)) (LmP_put (hlb _ (by omega))) | exact LmP_lbC (LmP_lbB (hlb _ (by omega))) _)) (by omega)))) ok_yX11_signs ml_RX11_242 (by decide) oM rfl hP hS hl.1 rfl (by decide) rfl rfl (Nat.le_of_ble_eq_true rfl) ⟨Nat.zero_le _, Nat.zero_le _⟩ dX11_beams_81 (fun H locs hP hS => ?_)
            refine lv_iinc (v := nI (t + 1)) (lv' := [(2, .int (nI (t + 1))), (1, .int (nI k)), (0, .ref (ad 276))]) hx hb dX11_beams_84 hl (k := 0) rfl (nI_inc _) (by decide) rfl (fun ls hl => ?_)
            refine lv_goto (tgt := 68) hx hb dX11_beams_87 (by decide) ?_
            exact ih (t + 1) (by omega)  _ _ _ (wP_e hP rfl) hS (by first | (refine lv_v (lv_sub (l' := [(2, .int (nI (t + 1))), (1, .int (nI k)), (0, .ref (ad 276))]) hl [0, 1, 2] rfl) ?_; simp [fo, thM, c_19, c_75]; done) | exact lv_sub hl [0, 1, 2] rfl)
        exact key_68 (tN (σ 277 (72 + 4 * k + 3))) 0 (by omega)  _ _ _ (wP_e hP rfl) hS (lv_sub hl [0, 1, 2] rfl)
      refine lv_if_le (tgt := 32) hx hb dX11_beams_23 (by decide) (fun c_23 => ?_) (fun c_23 => ?_)
      · exact jn_23_1 _ _ _ (wP_e hP (by first | (simp only [c_19, c_23, ↓reduceIte, if_true, if_false]; done) | (simp [c_19, c_23]; done) | rfl)) hS (lv_sub hl [0, 1] rfl)
      · refine lv_aload_n hx hb dX11_beams_26 rfl (lv_at hl 1 rfl) ?_
        refine lv_bipush (v := 32) hx hb dX11_beams_27 (by decide) ?_
        refine cVve (As := [.int 32]) S G 276 (c_X11_signs l (D := D) (ct := ct) (ek := ek) (ad := ad) (N0 := N0) (X := X) (F := F) (lbM (σ 277) (sg σ 276 20 0) k) 32 (by decide) (LmP_l (LmP_up (σ := (sg σ 276 20 0)) (by with_reducible repeat (first | exact LmP_z | exact LmP_ln0 | exact LmP_ln1 | exact LmP_ln2 | exact LmP_lnK _ | exact hlb _ (by omega) | apply LmP_put | apply LmP_num | apply LmP_lbB | exact LmP_if (LmP_up (hlb _ (by omega)) (Nat.le_succ _)) (LmP_put (hlb _ (by omega))) | exact LmP_lbC (LmP_lbB (hlb _ (by omega))) _)) (by omega)))) ok_yX11_signs ml_RX11_242 (by decide) oM rfl hP hS hl.1 rfl (by decide) rfl rfl (Nat.le_of_ble_eq_true rfl) ⟨Nat.zero_le _, Nat.zero_le _⟩ dX11_beams_29 (fun H locs hP hS => ?_)
        exact jn_23_1 _ _ _ (wP_e hP (by first | (simp only [c_19, c_23, ↓reduceIte, if_true, if_false]; done) | (simp [c_19, c_23]; done) | rfl)) hS (lv_sub hl [0, 1] rfl)
  exact key_12 mb 0 (by omega)  _ _ _ (wP_e hP rfl) hS (lv_sub hl [0, 1] rfl)

theorem ok_yX11_character : COK RX11 yX11_character cX11_character 2 (some .char) 1 := ⟨im_yX11_character, se_RX11_yX11_character, in_RX11, co_yX11_character, ⟨rfl, by decide +kernel, by decide +kernel, by decide +kernel⟩, by decide⟩
set_option maxHeartbeats 1000000 in
set_option maxRecDepth 100000 in
theorem c_X11_character (l : Launch) {D : va_G} {ct : Nat → ClassId} {ek ad : Nat → Nat} {N0 : Nat} {X : va_W} {F : State → Prop} (σ : Mem) (x : Int32) (L : Nat) (hL : σ 276 9 = nI L) (hL1 : L ≤ 120) (hz : ∀ j, j < 120 → narrow .char (.int (σ 283 j)) = .int (σ 283 j)) : MI l yX11_character cX11_character 2 (some .char) 1 D ct ek ad N0 X F [.ref (ad 276), .int x] σ (fun r τ => r = chrV σ x ∧ τ = thM σ (chrT σ x)) := by
  refine ms0 (own := RX11) (by decide) rfl (Nat.le_of_ble_eq_true rfl) (fun p e s m args below meth c S hr hlocks hnm G hP hS ls hl => ?_)
  have hx := S.1
  have hb := S.2.1
  replace hl : lv_has ls 2 [(0, .ref (ad 276)), (1, .int x)] := hl
  refine lv_aload_n hx hb dX11_character_0 rfl (lv_at hl 0 rfl) ?_
  refine lv_iload_n hx hb dX11_character_1 rfl (lv_at hl 1 rfl) ?_
  refine lv_iconst (v := 0) hx hb dX11_character_2 (by decide) ?_
  refine lv_aload_n hx hb dX11_character_3 rfl (lv_at hl 0 rfl) ?_
  refine gf S G hP 276 9 (by decide) oM rfl inX11 (by decide) fl_RX11_236 rfl rfl dX11_character_4 ?_
  refine lv_iconst (v := 1) hx hb dX11_character_7 (by decide) ?_
  refine lv_isub hx hb dX11_character_8 ?_
  refine cSie (As := [.int x, .int 0, .int ((σ 276 9) - 1)]) S G (c_X11_in l (D := D) (ct := ct) (ek := ek) (ad := ad) (N0 := N0) (X := X) (F := F) σ x 0 ((σ 276 9) - 1)) ok_yX11_in ml_RX11_67 hP hS hl.1 rfl (by decide) rfl rfl (Nat.le_of_ble_eq_true rfl) ⟨Nat.zero_le _, Nat.zero_le _⟩ dX11_character_9 (fun H locs hP hS => ?_)
  refine lv_if_eq (tgt := 19) hx hb dX11_character_12 (by decide) (fun c_12 => ?_) (fun c_12 => ?_)
  · refine lv_iconst (v := 1) hx hb dX11_character_19 (by decide) ?_
    refine pf S G hP hS 276 20 (x := 1) tyX11 tyX11_ok nmX11 (by decide) oM rfl inX11 (by decide) fl_RX11_42 rfl rfl rfl rfl (Nat.le_of_ble_eq_true rfl) oM dX11_character_20 (fun H locs hP hS => ?_)
    refine lv_aload_n hx hb dX11_character_23 rfl (lv_at hl 0 rfl) ?_
    refine gf S G hP 276 20 (by decide) oM rfl inX11 (by decide) fl_RX11_42 rfl rfl dX11_character_24 ?_
    refine lv_tope (y := 1) (by rw [sg_ss]) ?_
    refine lv_if_ne (tgt := 39) hx hb dX11_character_27 (by decide) (fun c_27 => ?_) (fun c_27 => absurd c_27 (by decide))
    refine lv_bipush (v := 97) hx hb dX11_character_39 (by decide) ?_
    exact eZ S hr hlocks hP hS (by first | decide | exact hz _ (by omega)) dX11_character_41 (by first | (refine ⟨?_, ?_⟩ <;> simp only [chrV, chrT, thM, c_12, c_27, ↓reduceIte, if_true, if_false, eq_self]; done) | (refine ⟨?_, rfl⟩; simp only [chrV, chrT, thM, c_12, c_27, ↓reduceIte, if_true, if_false, eq_self]; done) | exact ⟨rfl, rfl⟩ | (refine ⟨?_, rfl⟩; simp [chrV, chrT, thM, c_12, c_27]; done) | (simp [chrV, chrT, thM, c_12, c_27]; done) | grind [chrV, chrT, thM])
  · refine lv_iconst (v := 0) hx hb dX11_character_15 (by decide) ?_
    refine lv_goto (tgt := 20) hx hb dX11_character_16 (by decide) ?_
    refine pf S G hP hS 276 20 (x := 0) tyX11 tyX11_ok nmX11 (by decide) oM rfl inX11 (by decide) fl_RX11_42 rfl rfl rfl rfl (Nat.le_of_ble_eq_true rfl) oM dX11_character_20 (fun H locs hP hS => ?_)
    refine lv_aload_n hx hb dX11_character_23 rfl (lv_at hl 0 rfl) ?_
    refine gf S G hP 276 20 (by decide) oM rfl inX11 (by decide) fl_RX11_42 rfl rfl dX11_character_24 ?_
    refine lv_tope (y := 0) (by rw [sg_ss]) ?_
    refine lv_if_ne (tgt := 39) hx hb dX11_character_27 (by decide) (fun c_27 => absurd rfl c_27) (fun c_27 => ?_)
    obtain ⟨h1, h1l⟩ := rngN c_12 hL (by omega)
    refine lv_aload_n hx hb dX11_character_30 rfl (lv_at hl 0 rfl) ?_
    refine gf S G hP 276 8 (by decide) oM rfl inX11 (by decide) fl_RX11_28 rfl rfl dX11_character_31 ?_
    refine lv_iload_n hx hb dX11_character_34 rfl (lv_at hl 1 rfl) ?_
    refine lv_tope (y := nI (tN (x))) h1 ?_
    refine cld S G hP 283 (tN (x)) (by decide) (aM283 _) rfl (by omega) (by decide) dX11_character_35 ?_
    refine lv_tope (y := σ 283 (tN x)) (by rw [sg_n (by decide)]) ?_
    refine lv_goto (tgt := 41) hx hb dX11_character_36 (by decide) ?_
    exact eZ S hr hlocks hP hS (by first | decide | exact hz _ (by omega)) dX11_character_41 (by first | (refine ⟨?_, ?_⟩ <;> simp only [chrV, chrT, thM, c_12, c_27, ↓reduceIte, if_true, if_false, eq_self]; done) | (refine ⟨?_, rfl⟩; simp only [chrV, chrT, thM, c_12, c_27, ↓reduceIte, if_true, if_false, eq_self]; done) | exact ⟨rfl, rfl⟩ | (refine ⟨?_, rfl⟩; simp [chrV, chrT, thM, c_12, c_27]; done) | (simp [chrV, chrT, thM, c_12, c_27]; done) | grind [chrV, chrT, thM])

theorem ok_yX11_account : COK RX11 yX11_account cX11_account 4 (some .int) 1 := ⟨im_yX11_account, se_RX11_yX11_account, in_RX11, co_yX11_account, ⟨rfl, by decide +kernel, by decide +kernel, by decide +kernel⟩, by decide⟩
set_option maxHeartbeats 1000000 in
set_option maxRecDepth 100000 in
theorem c_X11_account (l : Launch) {D : va_G} {ct : Nat → ClassId} {ek ad : Nat → Nat} {N0 : Nat} {X : va_W} {F : State → Prop} (σ : Mem) (x : Int32) (n : Nat) (hn : σ 277 0 = nI n) (hn6 : n ≤ 6) : MI l yX11_account cX11_account 4 (some .int) 2 D ct ek ad N0 X F [.ref (ad 276), .int x] σ (fun r τ => r = accV σ n x ∧ τ = thM σ (accT x)) := by
  refine ms0 (own := RX11) (by decide) rfl (Nat.le_of_ble_eq_true rfl) (fun p e s m args below meth c S hr hlocks hnm G hP hS ls hl => ?_)
  have hx := S.1
  have hb := S.2.1
  replace hl : lv_has ls 4 [(0, .ref (ad 276)), (1, .int x)] := hl
  refine lv_aload_n hx hb dX11_account_0 rfl (lv_at hl 0 rfl) ?_
  refine lv_iconst (v := 0) hx hb dX11_account_1 (by decide) ?_
  refine pf S G hP hS 276 20 (x := 0) tyX11 tyX11_ok nmX11 (by decide) oM rfl inX11 (by decide) fl_RX11_42 rfl rfl rfl rfl (Nat.le_of_ble_eq_true rfl) oM dX11_account_2 (fun H locs hP hS => ?_)
  refine lv_iconst (v := 0) hx hb dX11_account_5 (by decide) ?_
  refine lv_istore_n (lv' := [(2, .int 0), (0, .ref (ad 276)), (1, .int x)]) hx hb dX11_account_6 rfl hl (by decide) rfl (fun ls hl => ?_)
  refine lv_iload_n hx hb dX11_account_7 rfl (lv_at hl 2 rfl) ?_
  by_cases c_8_0 : x = 0
  · refine lv_tableIn (off := 60) (tgt := 68) hx hb dX11_account_8 (by rw [c_8_0]; decide) (by rw [c_8_0]; decide) (by rw [c_8_0]; rfl) (by decide) ?_
    refine lv_aload_n hx hb dX11_account_68 rfl (lv_at hl 1 rfl) ?_
    refine gf S G hP 276 0 (by decide) oM rfl inX11 (by decide) fl_RX11_9 rfl rfl dX11_account_69 ?_
    refine lv_iconst (v := 0) hx hb dX11_account_72 (by decide) ?_
    refine ald S G hP 277 0 (by decide) (aM277 _) (by decide) (by omega) (by decide) dX11_account_73 ?_
    refine lv_tope (y := σ 277 0) (by rw [th_r]) ?_
    exact eI S hr hlocks hP hS dX11_account_74 (by first | (refine ⟨?_, ?_⟩ <;> simp only [accV, accT, thM, sg_sg, c_8_0, ↓reduceIte, if_true, if_false, eq_self]; done) | (refine ⟨?_, rfl⟩; simp only [accV, accT, thM, sg_sg, c_8_0, ↓reduceIte, if_true, if_false, eq_self]; done) | exact ⟨rfl, rfl⟩ | (refine ⟨?_, rfl⟩; simp [accV, accT, thM, sg_sg, c_8_0]; done) | (simp [accV, accT, thM, sg_sg, c_8_0]; done) | grind [accV, accT, thM, sg_sg])
  by_cases c_8_1 : x = 1
  · refine lv_tableIn (off := 67) (tgt := 75) hx hb dX11_account_8 (by rw [c_8_1]; decide) (by rw [c_8_1]; decide) (by rw [c_8_1]; rfl) (by decide) ?_
    refine lv_iconst (v := 0) hx hb dX11_account_75 (by decide) ?_
    refine lv_istore_n (lv' := [(3, .int 0), (2, .int 0), (0, .ref (ad 276)), (1, .int x)]) hx hb dX11_account_76 rfl hl (by decide) rfl (fun ls hl => ?_)
    have key_77 : ∀ (d k : Nat), k + d = n → ∀ (H : Heap) (locs : List Loc) (ls : Array Slot), wP D ct ek ad X (sg σ 276 20 0) H → va_S (fr N0) s.heap H locs → lv_has ls 4 [(3, .int (nI k)), (2, .int (fo (fun q a => a + foR (σ 277) n q) 0 k)), (0, .ref (ad 276)), (1, .int x)] → W p l e (rmd 2 0 0) s m args below meth c H locs 0 0 (MQ below (wQi D ct ek ad N0 X (fun r τ => r = accV σ n x ∧ τ = thM σ (accT x))) args s 0 0 (fr N0)) (F0 m 77 ls []) := by
      intro d
      induction d with
      | zero =>
        intro k9 hk
        obtain rfl : n = k9 := by omega
        intro  H locs ls hP hS hl
        refine lv_iload_n hx hb dX11_account_77 rfl (lv_at hl 0 rfl) ?_
        refine lv_aload_n hx hb dX11_account_78 rfl (lv_at hl 2 rfl) ?_
        refine gf S G hP 276 0 (by decide) oM rfl inX11 (by decide) fl_RX11_9 rfl rfl dX11_account_79 ?_
        refine lv_iconst (v := 0) hx hb dX11_account_82 (by decide) ?_
        refine ald S G hP 277 0 (by decide) (aM277 _) (by decide) (by omega) (by decide) dX11_account_83 ?_
        refine lv_icmp_ge (tgt := 101) hx hb dX11_account_84 (by decide) (fun c_84 => ?_) (fun c_84 => absurd (by rw [(show (sg σ 276 20 0) 277 0 = nI n from by rw [th_r]; exact hn)]; exact nI_le (by omega) (by omega)) c_84)
        refine lv_iload_n hx hb dX11_account_101 rfl (lv_at hl 1 rfl) ?_
        refine lv_iconst (v := 2) hx hb dX11_account_102 (by decide) ?_
        refine lv_idiv hx hb dX11_account_103 (by decide) ?_
        exact eI S hr hlocks hP hS dX11_account_104 (by first | (refine ⟨?_, ?_⟩ <;> simp only [accV, accT, thM, sg_sg, c_8_1, c_84, ↓reduceIte, if_true, if_false, eq_self]; done) | (refine ⟨?_, rfl⟩; simp only [accV, accT, thM, sg_sg, c_8_1, c_84, ↓reduceIte, if_true, if_false, eq_self]; done) | exact ⟨rfl, rfl⟩ | (refine ⟨?_, rfl⟩; simp [accV, accT, thM, sg_sg, c_8_1, c_84]; done) | (simp [accV, accT, thM, sg_sg, c_8_1, c_84]; done) | grind [accV, accT, thM, sg_sg])
      | succ d ih =>
        intro k hk  H locs ls hP hS hl
        have hkn : k < n := by omega
        refine lv_iload_n hx hb dX11_account_77 rfl (lv_at hl 0 rfl) ?_
        refine lv_aload_n hx hb dX11_account_78 rfl (lv_at hl 2 rfl) ?_
        refine gf S G hP 276 0 (by decide) oM rfl inX11 (by decide) fl_RX11_9 rfl rfl dX11_account_79 ?_
        refine lv_iconst (v := 0) hx hb dX11_account_82 (by decide) ?_
        refine ald S G hP 277 0 (by decide) (aM277 _) (by decide) (by omega) (by decide) dX11_account_83 ?_
        refine lv_icmp_ge (tgt := 101) hx hb dX11_account_84 (by decide) (fun c_84 => absurd c_84 (by rw [(show (sg σ 276 20 0) 277 0 = nI n from by rw [th_r]; exact hn)]; exact nI_ge (by omega) (by omega))) (fun c_84 => ?_)
        refine lv_iload_n hx hb dX11_account_87 rfl (lv_at hl 1 rfl) ?_
        refine lv_aload_n hx hb dX11_account_88 rfl (lv_at hl 2 rfl) ?_
        refine lv_iload_n hx hb dX11_account_89 rfl (lv_at hl 0 rfl) ?_
        refine cVie (As := [.int (nI k)]) S G 276 (c_X11_friendsOf l (D := D) (ct := ct) (ek := ek) (ad := ad) (N0 := N0) (X := X) (F := F) (sg σ 276 20 0) k (by omega) n (by first | assumption | omega | (simp [sg_at]; assumption) | (simp [sg_at]; done)) (by omega)) ok_yX11_friendsOf ml_RX11_165 (by decide) oM rfl hP hS hl.1 rfl (by decide) rfl rfl (Nat.le_of_ble_eq_true rfl) ⟨Nat.zero_le _, Nat.zero_le _⟩ dX11_account_90 (fun H locs hP hS => ?_)
        refine lv_tope (y := foR (σ 277) n k) (by rw [th_r]) ?_
        refine lv_iadd hx hb dX11_account_93 ?_
        refine lv_istore_n (lv' := [(2, .int ((fo (fun q a => a + foR (σ 277) n q) 0 k) + (foR (σ 277) n k))), (3, .int (nI k)), (0, .ref (ad 276)), (1, .int x)]) hx hb dX11_account_94 rfl hl (by decide) rfl (fun ls hl => ?_)
        refine lv_iinc (v := nI (k + 1)) (lv' := [(3, .int (nI (k + 1))), (2, .int ((fo (fun q a => a + foR (σ 277) n q) 0 k) + (foR (σ 277) n k))), (0, .ref (ad 276)), (1, .int x)]) hx hb dX11_account_95 hl (k := 1) rfl (nI_inc _) (by decide) rfl (fun ls hl => ?_)
        refine lv_goto (tgt := 77) hx hb dX11_account_98 (by decide) ?_
        exact ih (k + 1) (by omega)  _ _ _ hP hS (lv_v (lv_sub (l' := [(3, .int (nI (k + 1))), (2, .int ((fo (fun q a => a + foR (σ 277) n q) 0 k) + (foR (σ 277) n k))), (0, .ref (ad 276)), (1, .int x)]) hl [0, 1, 2, 3] rfl) rfl)
    exact key_77 n 0 (by omega)  _ _ _ hP hS (lv_v (lv_sub (l' := [(3, .int 0), (2, .int 0), (0, .ref (ad 276)), (1, .int x)]) hl [0, 1, 2, 3] rfl) rfl)
  by_cases c_8_2 : x = 2
  · refine lv_tableIn (off := 97) (tgt := 105) hx hb dX11_account_8 (by rw [c_8_2]; decide) (by rw [c_8_2]; decide) (by rw [c_8_2]; rfl) (by decide) ?_
    refine lv_aload_n hx hb dX11_account_105 rfl (lv_at hl 1 rfl) ?_
    refine gf S G hP 276 0 (by decide) oM rfl inX11 (by decide) fl_RX11_9 rfl rfl dX11_account_106 ?_
    refine lv_iconst (v := 1) hx hb dX11_account_109 (by decide) ?_
    refine ald S G hP 277 1 (by decide) (aM277 _) (by decide) (by omega) (by decide) dX11_account_110 ?_
    refine lv_tope (y := σ 277 1) (by rw [th_r]) ?_
    exact eI S hr hlocks hP hS dX11_account_111 (by first | (refine ⟨?_, ?_⟩ <;> simp only [accV, accT, thM, sg_sg, c_8_2, ↓reduceIte, if_true, if_false, eq_self]; done) | (refine ⟨?_, rfl⟩; simp only [accV, accT, thM, sg_sg, c_8_2, ↓reduceIte, if_true, if_false, eq_self]; done) | exact ⟨rfl, rfl⟩ | (refine ⟨?_, rfl⟩; simp [accV, accT, thM, sg_sg, c_8_2]; done) | (simp [accV, accT, thM, sg_sg, c_8_2]; done) | grind [accV, accT, thM, sg_sg])
  by_cases c_8_3 : x = 3
  · refine lv_tableIn (off := 104) (tgt := 112) hx hb dX11_account_8 (by rw [c_8_3]; decide) (by rw [c_8_3]; decide) (by rw [c_8_3]; rfl) (by decide) ?_
    refine lv_aload_n hx hb dX11_account_112 rfl (lv_at hl 1 rfl) ?_
    refine cVie (As := []) S G 276 (c_X11_plumb l (D := D) (ct := ct) (ek := ek) (ad := ad) (N0 := N0) (X := X) (F := F) (sg σ 276 20 0) n (by first | assumption | omega | (simp [sg_at]; assumption) | (simp [sg_at]; done)) (by omega)) ok_yX11_plumb ml_RX11_252 (by decide) oM rfl hP hS hl.1 rfl (by decide) rfl rfl (Nat.le_of_ble_eq_true rfl) ⟨Nat.zero_le _, Nat.zero_le _⟩ dX11_account_113 (fun H locs hP hS => ?_)
    refine lv_tope (y := plmR (fun q => σ 277 (6 + 5 * q + 0)) n) (by rw [th_r]) ?_
    exact eI S hr hlocks hP hS dX11_account_116 (by first | (refine ⟨?_, ?_⟩ <;> simp only [accV, accT, thM, sg_sg, c_8_3, ↓reduceIte, if_true, if_false, eq_self]; done) | (refine ⟨?_, rfl⟩; simp only [accV, accT, thM, sg_sg, c_8_3, ↓reduceIte, if_true, if_false, eq_self]; done) | exact ⟨rfl, rfl⟩ | (refine ⟨?_, rfl⟩; simp [accV, accT, thM, sg_sg, c_8_3]; done) | (simp [accV, accT, thM, sg_sg, c_8_3]; done) | grind [accV, accT, thM, sg_sg])
  by_cases c_8_4 : x = 4
  · refine lv_tableIn (off := 109) (tgt := 117) hx hb dX11_account_8 (by rw [c_8_4]; decide) (by rw [c_8_4]; decide) (by rw [c_8_4]; rfl) (by decide) ?_
    refine lv_aload_n hx hb dX11_account_117 rfl (lv_at hl 1 rfl) ?_
    refine gf S G hP 276 0 (by decide) oM rfl inX11 (by decide) fl_RX11_9 rfl rfl dX11_account_118 ?_
    refine lv_iconst (v := 2) hx hb dX11_account_121 (by decide) ?_
    refine lv_iload_n hx hb dX11_account_122 rfl (lv_at hl 2 rfl) ?_
    refine lv_tope (y := nI 4) (c_8_4.trans (by decide)) ?_
    refine nadd hx hb 2 4 dX11_account_123 (by decide) rfl ?_
    refine lv_iconst (v := 4) hx hb dX11_account_124 (by decide) ?_
    refine nsub hx hb (2 + 4) 4 dX11_account_125 rfl (by decide) (by decide) ?_
    refine ald S G hP 277 ((2 + 4) - 4) (by decide) (aM277 _) rfl (by omega) (by decide) dX11_account_126 ?_
    refine lv_tope (y := σ 277 2) (by rw [th_r]) ?_
    exact eI S hr hlocks hP hS dX11_account_127 (by first | (refine ⟨?_, ?_⟩ <;> simp only [accV, accT, thM, sg_sg, c_8_4, ↓reduceIte, if_true, if_false, eq_self]; done) | (refine ⟨?_, rfl⟩; simp only [accV, accT, thM, sg_sg, c_8_4, ↓reduceIte, if_true, if_false, eq_self]; done) | exact ⟨rfl, rfl⟩ | (refine ⟨?_, rfl⟩; simp [accV, accT, thM, sg_sg, c_8_4]; done) | (simp [accV, accT, thM, sg_sg, c_8_4]; done) | grind [accV, accT, thM, sg_sg])
  by_cases c_8_5 : x = 5
  · refine lv_tableIn (off := 109) (tgt := 117) hx hb dX11_account_8 (by rw [c_8_5]; decide) (by rw [c_8_5]; decide) (by rw [c_8_5]; rfl) (by decide) ?_
    refine lv_aload_n hx hb dX11_account_117 rfl (lv_at hl 1 rfl) ?_
    refine gf S G hP 276 0 (by decide) oM rfl inX11 (by decide) fl_RX11_9 rfl rfl dX11_account_118 ?_
    refine lv_iconst (v := 2) hx hb dX11_account_121 (by decide) ?_
    refine lv_iload_n hx hb dX11_account_122 rfl (lv_at hl 2 rfl) ?_
    refine lv_tope (y := nI 5) (c_8_5.trans (by decide)) ?_
    refine nadd hx hb 2 5 dX11_account_123 (by decide) rfl ?_
    refine lv_iconst (v := 4) hx hb dX11_account_124 (by decide) ?_
    refine nsub hx hb (2 + 5) 4 dX11_account_125 rfl (by decide) (by decide) ?_
    refine ald S G hP 277 ((2 + 5) - 4) (by decide) (aM277 _) rfl (by omega) (by decide) dX11_account_126 ?_
    refine lv_tope (y := σ 277 3) (by rw [th_r]) ?_
    exact eI S hr hlocks hP hS dX11_account_127 (by first | (refine ⟨?_, ?_⟩ <;> simp only [accV, accT, thM, sg_sg, c_8_5, ↓reduceIte, if_true, if_false, eq_self]; done) | (refine ⟨?_, rfl⟩; simp only [accV, accT, thM, sg_sg, c_8_5, ↓reduceIte, if_true, if_false, eq_self]; done) | exact ⟨rfl, rfl⟩ | (refine ⟨?_, rfl⟩; simp [accV, accT, thM, sg_sg, c_8_5]; done) | (simp [accV, accT, thM, sg_sg, c_8_5]; done) | grind [accV, accT, thM, sg_sg])
  by_cases c_8_6 : x = 6
  · refine lv_tableIn (off := 109) (tgt := 117) hx hb dX11_account_8 (by rw [c_8_6]; decide) (by rw [c_8_6]; decide) (by rw [c_8_6]; rfl) (by decide) ?_
    refine lv_aload_n hx hb dX11_account_117 rfl (lv_at hl 1 rfl) ?_
    refine gf S G hP 276 0 (by decide) oM rfl inX11 (by decide) fl_RX11_9 rfl rfl dX11_account_118 ?_
    refine lv_iconst (v := 2) hx hb dX11_account_121 (by decide) ?_
    refine lv_iload_n hx hb dX11_account_122 rfl (lv_at hl 2 rfl) ?_
    refine lv_tope (y := nI 6) (c_8_6.trans (by decide)) ?_
    refine nadd hx hb 2 6 dX11_account_123 (by decide) rfl ?_
    refine lv_iconst (v := 4) hx hb dX11_account_124 (by decide) ?_
    refine nsub hx hb (2 + 6) 4 dX11_account_125 rfl (by decide) (by decide) ?_
    refine ald S G hP 277 ((2 + 6) - 4) (by decide) (aM277 _) rfl (by omega) (by decide) dX11_account_126 ?_
    refine lv_tope (y := σ 277 4) (by rw [th_r]) ?_
    exact eI S hr hlocks hP hS dX11_account_127 (by first | (refine ⟨?_, ?_⟩ <;> simp only [accV, accT, thM, sg_sg, c_8_6, ↓reduceIte, if_true, if_false, eq_self]; done) | (refine ⟨?_, rfl⟩; simp only [accV, accT, thM, sg_sg, c_8_6, ↓reduceIte, if_true, if_false, eq_self]; done) | exact ⟨rfl, rfl⟩ | (refine ⟨?_, rfl⟩; simp [accV, accT, thM, sg_sg, c_8_6]; done) | (simp [accV, accT, thM, sg_sg, c_8_6]; done) | grind [accV, accT, thM, sg_sg])
  by_cases c_8_7 : x = 7
  · refine lv_tableIn (off := 109) (tgt := 117) hx hb dX11_account_8 (by rw [c_8_7]; decide) (by rw [c_8_7]; decide) (by rw [c_8_7]; rfl) (by decide) ?_
    refine lv_aload_n hx hb dX11_account_117 rfl (lv_at hl 1 rfl) ?_
    refine gf S G hP 276 0 (by decide) oM rfl inX11 (by decide) fl_RX11_9 rfl rfl dX11_account_118 ?_
    refine lv_iconst (v := 2) hx hb dX11_account_121 (by decide) ?_
    refine lv_iload_n hx hb dX11_account_122 rfl (lv_at hl 2 rfl) ?_
    refine lv_tope (y := nI 7) (c_8_7.trans (by decide)) ?_
    refine nadd hx hb 2 7 dX11_account_123 (by decide) rfl ?_
    refine lv_iconst (v := 4) hx hb dX11_account_124 (by decide) ?_
    refine nsub hx hb (2 + 7) 4 dX11_account_125 rfl (by decide) (by decide) ?_
    refine ald S G hP 277 ((2 + 7) - 4) (by decide) (aM277 _) rfl (by omega) (by decide) dX11_account_126 ?_
    refine lv_tope (y := σ 277 5) (by rw [th_r]) ?_
    exact eI S hr hlocks hP hS dX11_account_127 (by first | (refine ⟨?_, ?_⟩ <;> simp only [accV, accT, thM, sg_sg, c_8_7, ↓reduceIte, if_true, if_false, eq_self]; done) | (refine ⟨?_, rfl⟩; simp only [accV, accT, thM, sg_sg, c_8_7, ↓reduceIte, if_true, if_false, eq_self]; done) | exact ⟨rfl, rfl⟩ | (refine ⟨?_, rfl⟩; simp [accV, accT, thM, sg_sg, c_8_7]; done) | (simp [accV, accT, thM, sg_sg, c_8_7]; done) | grind [accV, accT, thM, sg_sg])
  by_cases c_8_8 : x = 8
  · refine lv_tableIn (off := 120) (tgt := 128) hx hb dX11_account_8 (by rw [c_8_8]; decide) (by rw [c_8_8]; decide) (by rw [c_8_8]; rfl) (by decide) ?_
    refine lv_aload_n hx hb dX11_account_128 rfl (lv_at hl 1 rfl) ?_
    refine cVie (As := []) S G 276 (c_X11_tilts l (D := D) (ct := ct) (ek := ek) (ad := ad) (N0 := N0) (X := X) (F := F) (sg σ 276 20 0) n (by first | assumption | omega | (simp [sg_at]; assumption) | (simp [sg_at]; done)) (by omega)) ok_yX11_tilts ml_RX11_249 (by decide) oM rfl hP hS hl.1 rfl (by decide) rfl rfl (Nat.le_of_ble_eq_true rfl) ⟨Nat.zero_le _, Nat.zero_le _⟩ dX11_account_129 (fun H locs hP hS => ?_)
    refine lv_tope (y := sumR (fun q => σ 277 (6 + 5 * q + 0)) 0 n) (by rw [th_r]) ?_
    exact eI S hr hlocks hP hS dX11_account_132 (by first | (refine ⟨?_, ?_⟩ <;> simp only [accV, accT, thM, sg_sg, c_8_8, ↓reduceIte, if_true, if_false, eq_self]; done) | (refine ⟨?_, rfl⟩; simp only [accV, accT, thM, sg_sg, c_8_8, ↓reduceIte, if_true, if_false, eq_self]; done) | exact ⟨rfl, rfl⟩ | (refine ⟨?_, rfl⟩; simp [accV, accT, thM, sg_sg, c_8_8]; done) | (simp [accV, accT, thM, sg_sg, c_8_8]; done) | grind [accV, accT, thM, sg_sg])
  by_cases c_8_9 : x = 9
  · refine lv_tableIn (off := 125) (tgt := 133) hx hb dX11_account_8 (by rw [c_8_9]; decide) (by rw [c_8_9]; decide) (by rw [c_8_9]; rfl) (by decide) ?_
    refine lv_aload_n hx hb dX11_account_133 rfl (lv_at hl 1 rfl) ?_
    refine gf S G hP 276 4 (by decide) oM rfl inX11 (by decide) fl_RX11_45 rfl rfl dX11_account_134 ?_
    refine lv_tope (y := σ 276 4) (by simp [sg_at]) ?_
    exact eI S hr hlocks hP hS dX11_account_137 (by first | (refine ⟨?_, ?_⟩ <;> simp only [accV, accT, thM, sg_sg, c_8_9, ↓reduceIte, if_true, if_false, eq_self]; done) | (refine ⟨?_, rfl⟩; simp only [accV, accT, thM, sg_sg, c_8_9, ↓reduceIte, if_true, if_false, eq_self]; done) | exact ⟨rfl, rfl⟩ | (refine ⟨?_, rfl⟩; simp [accV, accT, thM, sg_sg, c_8_9]; done) | (simp [accV, accT, thM, sg_sg, c_8_9]; done) | grind [accV, accT, thM, sg_sg])
  by_cases c_8_10 : x = 10
  · refine lv_tableIn (off := 130) (tgt := 138) hx hb dX11_account_8 (by rw [c_8_10]; decide) (by rw [c_8_10]; decide) (by rw [c_8_10]; rfl) (by decide) ?_
    refine lv_aload_n hx hb dX11_account_138 rfl (lv_at hl 1 rfl) ?_
    refine gf S G hP 276 11 (by decide) oM rfl inX11 (by decide) fl_RX11_203 rfl rfl dX11_account_139 ?_
    refine lv_tope (y := σ 276 11) (by simp [sg_at]) ?_
    exact eI S hr hlocks hP hS dX11_account_142 (by first | (refine ⟨?_, ?_⟩ <;> simp only [accV, accT, thM, sg_sg, c_8_10, ↓reduceIte, if_true, if_false, eq_self]; done) | (refine ⟨?_, rfl⟩; simp only [accV, accT, thM, sg_sg, c_8_10, ↓reduceIte, if_true, if_false, eq_self]; done) | exact ⟨rfl, rfl⟩ | (refine ⟨?_, rfl⟩; simp [accV, accT, thM, sg_sg, c_8_10]; done) | (simp [accV, accT, thM, sg_sg, c_8_10]; done) | grind [accV, accT, thM, sg_sg])
  refine lv_tableOut (tgt := 143) hx hb dX11_account_8 (swout (0) (10) (fun n h1 h2 he => by
    rcases (show n = 0 ∨ n = 1 ∨ n = 2 ∨ n = 3 ∨ n = 4 ∨ n = 5 ∨ n = 6 ∨ n = 7 ∨ n = 8 ∨ n = 9 ∨ n = 10 by omega) with rfl | rfl | rfl | rfl | rfl | rfl | rfl | rfl | rfl | rfl | rfl
    · exact c_8_0 (Int32.toInt_inj.mp he)
    · exact c_8_1 (Int32.toInt_inj.mp he)
    · exact c_8_2 (Int32.toInt_inj.mp he)
    · exact c_8_3 (Int32.toInt_inj.mp he)
    · exact c_8_4 (Int32.toInt_inj.mp he)
    · exact c_8_5 (Int32.toInt_inj.mp he)
    · exact c_8_6 (Int32.toInt_inj.mp he)
    · exact c_8_7 (Int32.toInt_inj.mp he)
    · exact c_8_8 (Int32.toInt_inj.mp he)
    · exact c_8_9 (Int32.toInt_inj.mp he)
    · exact c_8_10 (Int32.toInt_inj.mp he))) (by decide) ?_
  refine lv_aload_n hx hb dX11_account_143 rfl (lv_at hl 1 rfl) ?_
  refine lv_iconst (v := 1) hx hb dX11_account_144 (by decide) ?_
  refine cVie (As := [.int 1]) S G 276 (c_X11_raises l (D := D) (ct := ct) (ek := ek) (ad := ad) (N0 := N0) (X := X) (F := F) (sg σ 276 20 0) 1) ok_yX11_raises ml_RX11_64 (by decide) oM rfl hP hS hl.1 rfl (by decide) rfl rfl (Nat.le_of_ble_eq_true rfl) ⟨Nat.zero_le _, Nat.zero_le _⟩ dX11_account_145 (fun H locs hP hS => ?_)
  exact eI S hr hlocks hP hS dX11_account_148 (by first | (refine ⟨?_, ?_⟩ <;> simp only [accV, accT, thM, sg_sg, c_8_0, c_8_1, c_8_2, c_8_3, c_8_4, c_8_5, c_8_6, c_8_7, c_8_8, c_8_9, c_8_10, ↓reduceIte, if_true, if_false, eq_self]; done) | (refine ⟨?_, rfl⟩; simp only [accV, accT, thM, sg_sg, c_8_0, c_8_1, c_8_2, c_8_3, c_8_4, c_8_5, c_8_6, c_8_7, c_8_8, c_8_9, c_8_10, ↓reduceIte, if_true, if_false, eq_self]; done) | exact ⟨rfl, rfl⟩ | (refine ⟨?_, rfl⟩; simp [accV, accT, thM, sg_sg, c_8_0, c_8_1, c_8_2, c_8_3, c_8_4, c_8_5, c_8_6, c_8_7, c_8_8, c_8_9, c_8_10]; done) | (simp [accV, accT, thM, sg_sg, c_8_0, c_8_1, c_8_2, c_8_3, c_8_4, c_8_5, c_8_6, c_8_7, c_8_8, c_8_9, c_8_10]; done) | grind [accV, accT, thM, sg_sg])

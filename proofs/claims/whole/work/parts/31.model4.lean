/-! the reference: its questions (laid by wip/whole/spec_model4.py) -/
theorem ok_yJ6_signum_0f7a4 : COKs RJ6 yJ6_signum_0f7a4 cJ6_signum_0f7a4 1 (some .int) 1 := ⟨sm_yJ6_signum_0f7a4, in_RJ6, co_yJ6_signum_0f7a4, ⟨rfl, by decide +kernel, by decide +kernel, by decide +kernel⟩, by decide⟩
set_option maxHeartbeats 1000000 in
set_option maxRecDepth 100000 in
theorem c_J6_signum_0f7a4 (l : Launch) {D : va_G} {ct : Nat → ClassId} {ek ad : Nat → Nat} {N0 : Nat} {X : va_W} {F : State → Prop} (σ : Mem) (x : Int32) : MI l yJ6_signum_0f7a4 cJ6_signum_0f7a4 1 (some .int) 0 D ct ek ad N0 X F [.int x] σ (fun r τ => r = sgnV x 0 ∧ τ = σ) := by
  refine ms0 (own := RJ6) (by decide) rfl (Nat.le_of_ble_eq_true rfl) (fun p e s m args below meth c S hr hlocks hnm G hP hS ls hl => ?_)
  have hx := S.1
  have hb := S.2.1
  replace hl : lv_has ls 1 [(0, .int x)] := hl
  refine lv_iload_n hx hb dJ6_signum_0f7a4_0 rfl (lv_at hl 0 rfl) ?_
  refine lv_bipush (v := 31) hx hb dJ6_signum_0f7a4_1 (by decide) ?_
  refine lv_ishr hx hb dJ6_signum_0f7a4_3 ?_
  refine lv_iload_n hx hb dJ6_signum_0f7a4_4 rfl (lv_at hl 0 rfl) ?_
  refine lv_ineg hx hb dJ6_signum_0f7a4_5 ?_
  refine lv_bipush (v := 31) hx hb dJ6_signum_0f7a4_6 (by decide) ?_
  refine lv_iushr (v := ((-x).toUInt32 >>> ((31 : Int32).toUInt32 &&& Int32.toUInt32 31)).toInt32) hx hb dJ6_signum_0f7a4_8 rfl ?_
  refine lv_ior hx hb dJ6_signum_0f7a4_9 ?_
  refine lv_tope (y := sgnV x 0) (sgn_e x) ?_
  exact eI S hr hlocks hP hS dJ6_signum_0f7a4_10 (by first | exact ⟨rfl, rfl⟩ | (refine ⟨?_, rfl⟩; simp []; done) | (simp []; done) | (simp only [↓reduceIte, if_true, if_false, and_self, true_and]; done) | grind [])

theorem ok_yX11_friendsOf : COK RX11 yX11_friendsOf cX11_friendsOf 4 (some .int) 1 := ⟨im_yX11_friendsOf, se_RX11_yX11_friendsOf, in_RX11, co_yX11_friendsOf, ⟨rfl, by decide +kernel, by decide +kernel, by decide +kernel⟩, by decide⟩
set_option maxHeartbeats 1000000 in
set_option maxRecDepth 100000 in
theorem c_X11_friendsOf (l : Launch) {D : va_G} {ct : Nat → ClassId} {ek ad : Nat → Nat} {N0 : Nat} {X : va_W} {F : State → Prop} (σ : Mem) (i : Nat) (hi : i < 6) (n : Nat) (hn : σ 277 0 = nI n) (hn6 : n ≤ 6) : MI l yX11_friendsOf cX11_friendsOf 4 (some .int) 1 D ct ek ad N0 X F [.ref (ad 276), .int (nI i)] σ (fun r τ => r = foR (σ 277) n i ∧ τ = σ) := by
  refine ms0 (own := RX11) (by decide) rfl (Nat.le_of_ble_eq_true rfl) (fun p e s m args below meth c S hr hlocks hnm G hP hS ls hl => ?_)
  have hx := S.1
  have hb := S.2.1
  replace hl : lv_has ls 4 [(0, .ref (ad 276)), (1, .int (nI i))] := hl
  refine lv_iconst (v := 0) hx hb dX11_friendsOf_0 (by decide) ?_
  refine lv_istore_n (lv' := [(2, .int 0), (0, .ref (ad 276)), (1, .int (nI i))]) hx hb dX11_friendsOf_1 rfl hl (by decide) rfl (fun ls hl => ?_)
  refine lv_iconst (v := 0) hx hb dX11_friendsOf_2 (by decide) ?_
  refine lv_istore_n (lv' := [(3, .int 0), (2, .int 0), (0, .ref (ad 276)), (1, .int (nI i))]) hx hb dX11_friendsOf_3 rfl hl (by decide) rfl (fun ls hl => ?_)
  have key_4 : ∀ (d k : Nat), k + d = n → ∀ (H : Heap) (locs : List Loc) (ls : Array Slot), wP D ct ek ad X σ H → va_S (fr N0) s.heap H locs → lv_has ls 4 [(3, .int (nI k)), (2, .int (foR (σ 277) k i)), (0, .ref (ad 276)), (1, .int (nI i))] → W p l e (rmd 1 0 0) s m args below meth c H locs 0 0 (MQ below (wQi D ct ek ad N0 X (fun r τ => r = foR (σ 277) n i ∧ τ = σ)) args s 0 0 (fr N0)) (F0 m 4 ls []) := by
    intro d
    induction d with
    | zero =>
      intro k9 hk
      obtain rfl : n = k9 := by omega
      intro  H locs ls hP hS hl
      refine lv_iload_n hx hb dX11_friendsOf_4 rfl (lv_at hl 0 rfl) ?_
      refine lv_aload_n hx hb dX11_friendsOf_5 rfl (lv_at hl 2 rfl) ?_
      refine gf S G hP 276 0 (by decide) oM rfl inX11 (by decide) fl_RX11_9 rfl rfl dX11_friendsOf_6 ?_
      refine lv_iconst (v := 0) hx hb dX11_friendsOf_9 (by decide) ?_
      refine ald S G hP 277 0 (by decide) (aM277 _) (by decide) (by omega) (by decide) dX11_friendsOf_10 ?_
      refine lv_icmp_ge (tgt := 32) hx hb dX11_friendsOf_11 (by decide) (fun c_11 => ?_) (fun c_11 => absurd (by rw [hn]; exact nI_le (by omega) (by omega)) c_11)
      refine lv_iload_n hx hb dX11_friendsOf_32 rfl (lv_at hl 1 rfl) ?_
      exact eI S hr hlocks hP hS dX11_friendsOf_33 (by first | (refine ⟨?_, ?_⟩ <;> simp only [foR, c_11, ↓reduceIte, if_true, if_false, eq_self]; done) | (refine ⟨?_, rfl⟩; simp only [foR, c_11, ↓reduceIte, if_true, if_false, eq_self]; done) | exact ⟨rfl, rfl⟩ | (refine ⟨?_, rfl⟩; simp [foR, c_11]; done) | (simp [foR, c_11]; done) | grind [foR])
    | succ d ih =>
      intro k hk  H locs ls hP hS hl
      have hkn : k < n := by omega
      refine lv_iload_n hx hb dX11_friendsOf_4 rfl (lv_at hl 0 rfl) ?_
      refine lv_aload_n hx hb dX11_friendsOf_5 rfl (lv_at hl 2 rfl) ?_
      refine gf S G hP 276 0 (by decide) oM rfl inX11 (by decide) fl_RX11_9 rfl rfl dX11_friendsOf_6 ?_
      refine lv_iconst (v := 0) hx hb dX11_friendsOf_9 (by decide) ?_
      refine ald S G hP 277 0 (by decide) (aM277 _) (by decide) (by omega) (by decide) dX11_friendsOf_10 ?_
      refine lv_icmp_ge (tgt := 32) hx hb dX11_friendsOf_11 (by decide) (fun c_11 => absurd c_11 (by rw [hn]; exact nI_ge (by omega) (by omega))) (fun c_11 => ?_)
      refine lv_aload_n hx hb dX11_friendsOf_14 rfl (lv_at hl 2 rfl) ?_
      refine lv_iload_n hx hb dX11_friendsOf_15 rfl (lv_at hl 3 rfl) ?_
      refine lv_iload_n hx hb dX11_friendsOf_16 rfl (lv_at hl 0 rfl) ?_
      refine cVie (As := [.int (nI i), .int (nI k)]) S G 276 (c_X11_weighs l (D := D) (ct := ct) (ek := ek) (ad := ad) (N0 := N0) (X := X) (F := F) σ i (by omega) k (by omega)) ok_yX11_weighs ml_RX11_91 (by decide) oM rfl hP hS hl.1 rfl (by decide) rfl rfl (Nat.le_of_ble_eq_true rfl) ⟨Nat.zero_le _, Nat.zero_le _⟩ dX11_friendsOf_17 (fun H locs hP hS => ?_)
      refine lv_if_le (tgt := 26) hx hb dX11_friendsOf_20 (by decide) (fun c_20 => ?_) (fun c_20 => ?_)
      · refine lv_iinc (v := nI (k + 1)) (lv' := [(3, .int (nI (k + 1))), (2, .int (foR (σ 277) k i)), (0, .ref (ad 276)), (1, .int (nI i))]) hx hb dX11_friendsOf_26 hl (k := 0) rfl (nI_inc _) (by decide) rfl (fun ls hl => ?_)
        refine lv_goto (tgt := 4) hx hb dX11_friendsOf_29 (by decide) ?_
        exact ih (k + 1) (by omega)  _ _ _ hP hS (by first | (refine lv_v (lv_sub (l' := [(3, .int (nI (k + 1))), (2, .int (foR (σ 277) k i)), (0, .ref (ad 276)), (1, .int (nI i))]) hl [0, 1, 2, 3] rfl) ?_; simp [fo, foR, c_11, c_20]; done) | exact lv_sub hl [0, 1, 2, 3] rfl)
      · refine lv_iinc (v := (foR (σ 277) k i) + 1) (lv' := [(2, .int ((foR (σ 277) k i) + 1)), (3, .int (nI k)), (0, .ref (ad 276)), (1, .int (nI i))]) hx hb dX11_friendsOf_23 hl (k := 1) rfl rfl (by decide) rfl (fun ls hl => ?_)
        refine lv_iinc (v := nI (k + 1)) (lv' := [(3, .int (nI (k + 1))), (2, .int ((foR (σ 277) k i) + 1)), (0, .ref (ad 276)), (1, .int (nI i))]) hx hb dX11_friendsOf_26 hl (k := 1) rfl (nI_inc _) (by decide) rfl (fun ls hl => ?_)
        refine lv_goto (tgt := 4) hx hb dX11_friendsOf_29 (by decide) ?_
        exact ih (k + 1) (by omega)  _ _ _ hP hS (by first | (refine lv_v (lv_sub (l' := [(3, .int (nI (k + 1))), (2, .int ((foR (σ 277) k i) + 1)), (0, .ref (ad 276)), (1, .int (nI i))]) hl [0, 1, 2, 3] rfl) ?_; simp [fo, foR, c_11, c_20]; done) | exact lv_sub hl [0, 1, 2, 3] rfl)
  exact key_4 n 0 (by omega)  _ _ _ hP hS (lv_sub hl [0, 1, 2, 3] rfl)

theorem ok_yX11_personOf : COK RX11 yX11_personOf cX11_personOf 3 (some .int) 2 := ⟨im_yX11_personOf, se_RX11_yX11_personOf, in_RX11, co_yX11_personOf, ⟨rfl, by decide +kernel, by decide +kernel, by decide +kernel⟩, by decide⟩
set_option maxHeartbeats 1000000 in
set_option maxRecDepth 100000 in
theorem c_X11_personOf (l : Launch) {D : va_G} {ct : Nat → ClassId} {ek ad : Nat → Nat} {N0 : Nat} {X : va_W} {F : State → Prop} (σ : Mem) (x : Int32) (y : Int32) (n : Nat) (hn : σ 277 0 = nI n) (hn6 : n ≤ 6) : MI l yX11_personOf cX11_personOf 3 (some .int) 2 D ct ek ad N0 X F [.ref (ad 276), .int x, .int y] σ (fun r τ => r = pofV σ n x y ∧ τ = thM σ (pofT σ x y)) := by
  refine ms0 (own := RX11) (by decide) rfl (Nat.le_of_ble_eq_true rfl) (fun p e s m args below meth c S hr hlocks hnm G hP hS ls hl => ?_)
  have hx := S.1
  have hb := S.2.1
  replace hl : lv_has ls 3 [(0, .ref (ad 276)), (1, .int x), (2, .int y)] := hl
  refine lv_aload_n hx hb dX11_personOf_0 rfl (lv_at hl 0 rfl) ?_
  refine lv_iconst (v := 0) hx hb dX11_personOf_1 (by decide) ?_
  refine pf S G hP hS 276 20 (x := 0) tyX11 tyX11_ok nmX11 (by decide) oM rfl inX11 (by decide) fl_RX11_42 rfl rfl rfl rfl (Nat.le_of_ble_eq_true rfl) oM dX11_personOf_2 (fun H locs hP hS => ?_)
  refine lv_aload_n hx hb dX11_personOf_5 rfl (lv_at hl 0 rfl) ?_
  refine lv_iload_n hx hb dX11_personOf_6 rfl (lv_at hl 1 rfl) ?_
  refine cVie (As := [.int x]) S G 276 (c_X11_isOne l (D := D) (ct := ct) (ek := ek) (ad := ad) (N0 := N0) (X := X) (F := F) (sg σ 276 20 0) x) ok_yX11_isOne ml_RX11_71 (by decide) oM rfl hP hS hl.1 rfl (by decide) rfl rfl (Nat.le_of_ble_eq_true rfl) ⟨Nat.zero_le _, Nat.zero_le _⟩ dX11_personOf_7 (fun H locs hP hS => ?_)
  refine lv_tope (y := one1 σ x) (by simp [one1, sg_at]) ?_
  refine lv_if_ne (tgt := 19) hx hb dX11_personOf_10 (by decide) (fun c_10 => ?_) (fun c_10 => ?_)
  · refine lv_iload_n hx hb dX11_personOf_19 rfl (lv_at hl 2 rfl) ?_
    obtain ⟨h1, h1l⟩ := rngN (show ¬ rngB x 0 (σ 277 0 - 1) = 0 from c_10) hn (by omega)
    by_cases c_20_0 : y = 0
    · refine lv_tableIn (off := 48) (tgt := 68) hx hb dX11_personOf_20 (by rw [c_20_0]; decide) (by rw [c_20_0]; decide) (by rw [c_20_0]; rfl) (by decide) ?_
      refine lv_aload_n hx hb dX11_personOf_68 rfl (lv_at hl 0 rfl) ?_
      refine lv_iload_n hx hb dX11_personOf_69 rfl (lv_at hl 1 rfl) ?_
      refine lv_tope (y := nI (tN (x))) h1 ?_
      refine lv_iload_n hx hb dX11_personOf_70 rfl (lv_at hl 2 rfl) ?_
      refine lv_tope (y := nI 0) (c_20_0.trans (by decide)) ?_
      refine cVie (As := [.int (nI (tN (x))), .int (nI 0)]) S G 276 (c_X11_of l (D := D) (ct := ct) (ek := ek) (ad := ad) (N0 := N0) (X := X) (F := F) (sg σ 276 20 0) (tN (x)) (by omega) 0 (by omega)) ok_yX11_of ml_RX11_83 (by decide) oM rfl hP hS hl.1 rfl (by decide) rfl rfl (Nat.le_of_ble_eq_true rfl) ⟨Nat.zero_le _, Nat.zero_le _⟩ dX11_personOf_71 (fun H locs hP hS => ?_)
      refine lv_tope (y := σ 277 (6 + 5 * tN x + 0)) (by rw [th_r]) ?_
      exact eI S hr hlocks hP hS dX11_personOf_74 (by first | (refine ⟨?_, ?_⟩ <;> simp only [pofV, pofT, thM, sg_sg, c_10, c_20_0, ↓reduceIte, if_true, if_false, eq_self]; done) | (refine ⟨?_, rfl⟩; simp only [pofV, pofT, thM, sg_sg, c_10, c_20_0, ↓reduceIte, if_true, if_false, eq_self]; done) | exact ⟨rfl, rfl⟩ | (refine ⟨?_, rfl⟩; simp [pofV, pofT, thM, sg_sg, c_10, c_20_0]; done) | (simp [pofV, pofT, thM, sg_sg, c_10, c_20_0]; done) | grind [pofV, pofT, thM, sg_sg])
    by_cases c_20_1 : y = 1
    · refine lv_tableIn (off := 48) (tgt := 68) hx hb dX11_personOf_20 (by rw [c_20_1]; decide) (by rw [c_20_1]; decide) (by rw [c_20_1]; rfl) (by decide) ?_
      refine lv_aload_n hx hb dX11_personOf_68 rfl (lv_at hl 0 rfl) ?_
      refine lv_iload_n hx hb dX11_personOf_69 rfl (lv_at hl 1 rfl) ?_
      refine lv_tope (y := nI (tN (x))) h1 ?_
      refine lv_iload_n hx hb dX11_personOf_70 rfl (lv_at hl 2 rfl) ?_
      refine lv_tope (y := nI 1) (c_20_1.trans (by decide)) ?_
      refine cVie (As := [.int (nI (tN (x))), .int (nI 1)]) S G 276 (c_X11_of l (D := D) (ct := ct) (ek := ek) (ad := ad) (N0 := N0) (X := X) (F := F) (sg σ 276 20 0) (tN (x)) (by omega) 1 (by omega)) ok_yX11_of ml_RX11_83 (by decide) oM rfl hP hS hl.1 rfl (by decide) rfl rfl (Nat.le_of_ble_eq_true rfl) ⟨Nat.zero_le _, Nat.zero_le _⟩ dX11_personOf_71 (fun H locs hP hS => ?_)
      refine lv_tope (y := σ 277 (6 + 5 * tN x + 1)) (by rw [th_r]) ?_
      exact eI S hr hlocks hP hS dX11_personOf_74 (by first | (refine ⟨?_, ?_⟩ <;> simp only [pofV, pofT, thM, sg_sg, c_10, c_20_1, ↓reduceIte, if_true, if_false, eq_self]; done) | (refine ⟨?_, rfl⟩; simp only [pofV, pofT, thM, sg_sg, c_10, c_20_1, ↓reduceIte, if_true, if_false, eq_self]; done) | exact ⟨rfl, rfl⟩ | (refine ⟨?_, rfl⟩; simp [pofV, pofT, thM, sg_sg, c_10, c_20_1]; done) | (simp [pofV, pofT, thM, sg_sg, c_10, c_20_1]; done) | grind [pofV, pofT, thM, sg_sg])
    by_cases c_20_2 : y = 2
    · refine lv_tableIn (off := 48) (tgt := 68) hx hb dX11_personOf_20 (by rw [c_20_2]; decide) (by rw [c_20_2]; decide) (by rw [c_20_2]; rfl) (by decide) ?_
      refine lv_aload_n hx hb dX11_personOf_68 rfl (lv_at hl 0 rfl) ?_
      refine lv_iload_n hx hb dX11_personOf_69 rfl (lv_at hl 1 rfl) ?_
      refine lv_tope (y := nI (tN (x))) h1 ?_
      refine lv_iload_n hx hb dX11_personOf_70 rfl (lv_at hl 2 rfl) ?_
      refine lv_tope (y := nI 2) (c_20_2.trans (by decide)) ?_
      refine cVie (As := [.int (nI (tN (x))), .int (nI 2)]) S G 276 (c_X11_of l (D := D) (ct := ct) (ek := ek) (ad := ad) (N0 := N0) (X := X) (F := F) (sg σ 276 20 0) (tN (x)) (by omega) 2 (by omega)) ok_yX11_of ml_RX11_83 (by decide) oM rfl hP hS hl.1 rfl (by decide) rfl rfl (Nat.le_of_ble_eq_true rfl) ⟨Nat.zero_le _, Nat.zero_le _⟩ dX11_personOf_71 (fun H locs hP hS => ?_)
      refine lv_tope (y := σ 277 (6 + 5 * tN x + 2)) (by rw [th_r]) ?_
      exact eI S hr hlocks hP hS dX11_personOf_74 (by first | (refine ⟨?_, ?_⟩ <;> simp only [pofV, pofT, thM, sg_sg, c_10, c_20_2, ↓reduceIte, if_true, if_false, eq_self]; done) | (refine ⟨?_, rfl⟩; simp only [pofV, pofT, thM, sg_sg, c_10, c_20_2, ↓reduceIte, if_true, if_false, eq_self]; done) | exact ⟨rfl, rfl⟩ | (refine ⟨?_, rfl⟩; simp [pofV, pofT, thM, sg_sg, c_10, c_20_2]; done) | (simp [pofV, pofT, thM, sg_sg, c_10, c_20_2]; done) | grind [pofV, pofT, thM, sg_sg])
    by_cases c_20_3 : y = 3
    · refine lv_tableIn (off := 55) (tgt := 75) hx hb dX11_personOf_20 (by rw [c_20_3]; decide) (by rw [c_20_3]; decide) (by rw [c_20_3]; rfl) (by decide) ?_
      refine lv_aload_n hx hb dX11_personOf_75 rfl (lv_at hl 0 rfl) ?_
      refine lv_iload_n hx hb dX11_personOf_76 rfl (lv_at hl 1 rfl) ?_
      refine lv_tope (y := nI (tN (x))) h1 ?_
      refine cVie (As := [.int (nI (tN (x)))]) S G 276 (c_X11_stepOf l (D := D) (ct := ct) (ek := ek) (ad := ad) (N0 := N0) (X := X) (F := F) (sg σ 276 20 0) (tN (x)) (by omega)) ok_yX11_stepOf ml_RX11_97 (by decide) oM rfl hP hS hl.1 rfl (by decide) rfl rfl (Nat.le_of_ble_eq_true rfl) ⟨Nat.zero_le _, Nat.zero_le _⟩ dX11_personOf_77 (fun H locs hP hS => ?_)
      refine lv_tope (y := stR (σ 277) (tN x)) (by rw [th_r]) ?_
      exact eI S hr hlocks hP hS dX11_personOf_80 (by first | (refine ⟨?_, ?_⟩ <;> simp only [pofV, pofT, thM, sg_sg, c_10, c_20_3, ↓reduceIte, if_true, if_false, eq_self]; done) | (refine ⟨?_, rfl⟩; simp only [pofV, pofT, thM, sg_sg, c_10, c_20_3, ↓reduceIte, if_true, if_false, eq_self]; done) | exact ⟨rfl, rfl⟩ | (refine ⟨?_, rfl⟩; simp [pofV, pofT, thM, sg_sg, c_10, c_20_3]; done) | (simp [pofV, pofT, thM, sg_sg, c_10, c_20_3]; done) | grind [pofV, pofT, thM, sg_sg])
    by_cases c_20_4 : y = 4
    · refine lv_tableIn (off := 61) (tgt := 81) hx hb dX11_personOf_20 (by rw [c_20_4]; decide) (by rw [c_20_4]; decide) (by rw [c_20_4]; rfl) (by decide) ?_
      refine lv_aload_n hx hb dX11_personOf_81 rfl (lv_at hl 0 rfl) ?_
      refine lv_iload_n hx hb dX11_personOf_82 rfl (lv_at hl 1 rfl) ?_
      refine lv_tope (y := nI (tN (x))) h1 ?_
      refine cVie (As := [.int (nI (tN (x)))]) S G 276 (c_X11_friendsOf l (D := D) (ct := ct) (ek := ek) (ad := ad) (N0 := N0) (X := X) (F := F) (sg σ 276 20 0) (tN (x)) (by omega) n (by first | assumption | omega | (simp [sg_at]; assumption) | (simp [sg_at]; done)) (by omega)) ok_yX11_friendsOf ml_RX11_165 (by decide) oM rfl hP hS hl.1 rfl (by decide) rfl rfl (Nat.le_of_ble_eq_true rfl) ⟨Nat.zero_le _, Nat.zero_le _⟩ dX11_personOf_83 (fun H locs hP hS => ?_)
      refine lv_tope (y := foR (σ 277) n (tN x)) (by rw [th_r]) ?_
      exact eI S hr hlocks hP hS dX11_personOf_86 (by first | (refine ⟨?_, ?_⟩ <;> simp only [pofV, pofT, thM, sg_sg, c_10, c_20_4, ↓reduceIte, if_true, if_false, eq_self]; done) | (refine ⟨?_, rfl⟩; simp only [pofV, pofT, thM, sg_sg, c_10, c_20_4, ↓reduceIte, if_true, if_false, eq_self]; done) | exact ⟨rfl, rfl⟩ | (refine ⟨?_, rfl⟩; simp [pofV, pofT, thM, sg_sg, c_10, c_20_4]; done) | (simp [pofV, pofT, thM, sg_sg, c_10, c_20_4]; done) | grind [pofV, pofT, thM, sg_sg])
    by_cases c_20_5 : y = 5
    · refine lv_tableIn (off := 67) (tgt := 87) hx hb dX11_personOf_20 (by rw [c_20_5]; decide) (by rw [c_20_5]; decide) (by rw [c_20_5]; rfl) (by decide) ?_
      refine lv_aload_n hx hb dX11_personOf_87 rfl (lv_at hl 0 rfl) ?_
      refine lv_iload_n hx hb dX11_personOf_88 rfl (lv_at hl 1 rfl) ?_
      refine lv_tope (y := nI (tN (x))) h1 ?_
      refine cVie (As := [.int (nI (tN (x)))]) S G 276 (c_X11_weights l (D := D) (ct := ct) (ek := ek) (ad := ad) (N0 := N0) (X := X) (F := F) (sg σ 276 20 0) (tN (x)) (by omega) n (by first | assumption | omega | (simp [sg_at]; assumption) | (simp [sg_at]; done)) (by omega)) ok_yX11_weights ml_RX11_94 (by decide) oM rfl hP hS hl.1 rfl (by decide) rfl rfl (Nat.le_of_ble_eq_true rfl) ⟨Nat.zero_le _, Nat.zero_le _⟩ dX11_personOf_89 (fun H locs hP hS => ?_)
      refine lv_tope (y := wtR (σ 277) n (tN x)) (by rw [th_r]) ?_
      exact eI S hr hlocks hP hS dX11_personOf_92 (by first | (refine ⟨?_, ?_⟩ <;> simp only [pofV, pofT, thM, sg_sg, c_10, c_20_5, ↓reduceIte, if_true, if_false, eq_self]; done) | (refine ⟨?_, rfl⟩; simp only [pofV, pofT, thM, sg_sg, c_10, c_20_5, ↓reduceIte, if_true, if_false, eq_self]; done) | exact ⟨rfl, rfl⟩ | (refine ⟨?_, rfl⟩; simp [pofV, pofT, thM, sg_sg, c_10, c_20_5]; done) | (simp [pofV, pofT, thM, sg_sg, c_10, c_20_5]; done) | grind [pofV, pofT, thM, sg_sg])
    by_cases c_20_6 : y = 6
    · refine lv_tableIn (off := 73) (tgt := 93) hx hb dX11_personOf_20 (by rw [c_20_6]; decide) (by rw [c_20_6]; decide) (by rw [c_20_6]; rfl) (by decide) ?_
      refine lv_aload_n hx hb dX11_personOf_93 rfl (lv_at hl 0 rfl) ?_
      refine lv_iload_n hx hb dX11_personOf_94 rfl (lv_at hl 1 rfl) ?_
      refine lv_tope (y := nI (tN (x))) h1 ?_
      refine lv_iconst (v := 3) hx hb dX11_personOf_95 (by decide) ?_
      refine cVie (As := [.int (nI (tN (x))), .int (nI 3)]) S G 276 (c_X11_of l (D := D) (ct := ct) (ek := ek) (ad := ad) (N0 := N0) (X := X) (F := F) (sg σ 276 20 0) (tN (x)) (by omega) 3 (by omega)) ok_yX11_of ml_RX11_83 (by decide) oM rfl hP hS hl.1 rfl (by decide) rfl rfl (Nat.le_of_ble_eq_true rfl) ⟨Nat.zero_le _, Nat.zero_le _⟩ dX11_personOf_96 (fun H locs hP hS => ?_)
      refine lv_tope (y := σ 277 (6 + 5 * tN x + 3)) (by rw [th_r]) ?_
      exact eI S hr hlocks hP hS dX11_personOf_99 (by first | (refine ⟨?_, ?_⟩ <;> simp only [pofV, pofT, thM, sg_sg, c_10, c_20_6, ↓reduceIte, if_true, if_false, eq_self]; done) | (refine ⟨?_, rfl⟩; simp only [pofV, pofT, thM, sg_sg, c_10, c_20_6, ↓reduceIte, if_true, if_false, eq_self]; done) | exact ⟨rfl, rfl⟩ | (refine ⟨?_, rfl⟩; simp [pofV, pofT, thM, sg_sg, c_10, c_20_6]; done) | (simp [pofV, pofT, thM, sg_sg, c_10, c_20_6]; done) | grind [pofV, pofT, thM, sg_sg])
    by_cases c_20_7 : y = 7
    · refine lv_tableIn (off := 80) (tgt := 100) hx hb dX11_personOf_20 (by rw [c_20_7]; decide) (by rw [c_20_7]; decide) (by rw [c_20_7]; rfl) (by decide) ?_
      refine lv_aload_n hx hb dX11_personOf_100 rfl (lv_at hl 0 rfl) ?_
      refine lv_iload_n hx hb dX11_personOf_101 rfl (lv_at hl 1 rfl) ?_
      refine lv_tope (y := nI (tN (x))) h1 ?_
      refine lv_iconst (v := 4) hx hb dX11_personOf_102 (by decide) ?_
      refine cVie (As := [.int (nI (tN (x))), .int (nI 4)]) S G 276 (c_X11_of l (D := D) (ct := ct) (ek := ek) (ad := ad) (N0 := N0) (X := X) (F := F) (sg σ 276 20 0) (tN (x)) (by omega) 4 (by omega)) ok_yX11_of ml_RX11_83 (by decide) oM rfl hP hS hl.1 rfl (by decide) rfl rfl (Nat.le_of_ble_eq_true rfl) ⟨Nat.zero_le _, Nat.zero_le _⟩ dX11_personOf_103 (fun H locs hP hS => ?_)
      refine lv_tope (y := σ 277 (6 + 5 * tN x + 4)) (by rw [th_r]) ?_
      exact eI S hr hlocks hP hS dX11_personOf_106 (by first | (refine ⟨?_, ?_⟩ <;> simp only [pofV, pofT, thM, sg_sg, c_10, c_20_7, ↓reduceIte, if_true, if_false, eq_self]; done) | (refine ⟨?_, rfl⟩; simp only [pofV, pofT, thM, sg_sg, c_10, c_20_7, ↓reduceIte, if_true, if_false, eq_self]; done) | exact ⟨rfl, rfl⟩ | (refine ⟨?_, rfl⟩; simp [pofV, pofT, thM, sg_sg, c_10, c_20_7]; done) | (simp [pofV, pofT, thM, sg_sg, c_10, c_20_7]; done) | grind [pofV, pofT, thM, sg_sg])
    refine lv_tableOut (tgt := 107) hx hb dX11_personOf_20 (swout (0) (7) (fun n h1 h2 he => by
      rcases (show n = 0 ∨ n = 1 ∨ n = 2 ∨ n = 3 ∨ n = 4 ∨ n = 5 ∨ n = 6 ∨ n = 7 by omega) with rfl | rfl | rfl | rfl | rfl | rfl | rfl | rfl
      · exact c_20_0 (Int32.toInt_inj.mp he)
      · exact c_20_1 (Int32.toInt_inj.mp he)
      · exact c_20_2 (Int32.toInt_inj.mp he)
      · exact c_20_3 (Int32.toInt_inj.mp he)
      · exact c_20_4 (Int32.toInt_inj.mp he)
      · exact c_20_5 (Int32.toInt_inj.mp he)
      · exact c_20_6 (Int32.toInt_inj.mp he)
      · exact c_20_7 (Int32.toInt_inj.mp he))) (by decide) ?_
    refine lv_aload_n hx hb dX11_personOf_107 rfl (lv_at hl 0 rfl) ?_
    refine lv_iconst (v := 2) hx hb dX11_personOf_108 (by decide) ?_
    refine cVie (As := [.int 2]) S G 276 (c_X11_raises l (D := D) (ct := ct) (ek := ek) (ad := ad) (N0 := N0) (X := X) (F := F) (sg σ 276 20 0) 2) ok_yX11_raises ml_RX11_64 (by decide) oM rfl hP hS hl.1 rfl (by decide) rfl rfl (Nat.le_of_ble_eq_true rfl) ⟨Nat.zero_le _, Nat.zero_le _⟩ dX11_personOf_109 (fun H locs hP hS => ?_)
    exact eI S hr hlocks hP hS dX11_personOf_112 (by first | (refine ⟨?_, ?_⟩ <;> simp only [pofV, pofT, thM, sg_sg, c_10, c_20_0, c_20_1, c_20_2, c_20_3, c_20_4, c_20_5, c_20_6, c_20_7, ↓reduceIte, if_true, if_false, eq_self]; done) | (refine ⟨?_, rfl⟩; simp only [pofV, pofT, thM, sg_sg, c_10, c_20_0, c_20_1, c_20_2, c_20_3, c_20_4, c_20_5, c_20_6, c_20_7, ↓reduceIte, if_true, if_false, eq_self]; done) | exact ⟨rfl, rfl⟩ | (refine ⟨?_, rfl⟩; simp [pofV, pofT, thM, sg_sg, c_10, c_20_0, c_20_1, c_20_2, c_20_3, c_20_4, c_20_5, c_20_6, c_20_7]; done) | (simp [pofV, pofT, thM, sg_sg, c_10, c_20_0, c_20_1, c_20_2, c_20_3, c_20_4, c_20_5, c_20_6, c_20_7]; done) | grind [pofV, pofT, thM, sg_sg])
  · refine lv_aload_n hx hb dX11_personOf_13 rfl (lv_at hl 0 rfl) ?_
    refine lv_iconst (v := 1) hx hb dX11_personOf_14 (by decide) ?_
    refine cVie (As := [.int 1]) S G 276 (c_X11_raises l (D := D) (ct := ct) (ek := ek) (ad := ad) (N0 := N0) (X := X) (F := F) (sg σ 276 20 0) 1) ok_yX11_raises ml_RX11_64 (by decide) oM rfl hP hS hl.1 rfl (by decide) rfl rfl (Nat.le_of_ble_eq_true rfl) ⟨Nat.zero_le _, Nat.zero_le _⟩ dX11_personOf_15 (fun H locs hP hS => ?_)
    exact eI S hr hlocks hP hS dX11_personOf_18 (by first | (refine ⟨?_, ?_⟩ <;> simp only [pofV, pofT, thM, sg_sg, c_10, ↓reduceIte, if_true, if_false, eq_self]; done) | (refine ⟨?_, rfl⟩; simp only [pofV, pofT, thM, sg_sg, c_10, ↓reduceIte, if_true, if_false, eq_self]; done) | exact ⟨rfl, rfl⟩ | (refine ⟨?_, rfl⟩; simp [pofV, pofT, thM, sg_sg, c_10]; done) | (simp [pofV, pofT, thM, sg_sg, c_10]; done) | grind [pofV, pofT, thM, sg_sg])

theorem ok_yX11_weight : COK RX11 yX11_weight cX11_weight 3 (some .int) 2 := ⟨im_yX11_weight, se_RX11_yX11_weight, in_RX11, co_yX11_weight, ⟨rfl, by decide +kernel, by decide +kernel, by decide +kernel⟩, by decide⟩
set_option maxHeartbeats 1000000 in
set_option maxRecDepth 100000 in
theorem c_X11_weight (l : Launch) {D : va_G} {ct : Nat → ClassId} {ek ad : Nat → Nat} {N0 : Nat} {X : va_W} {F : State → Prop} (σ : Mem) (x : Int32) (y : Int32) (n : Nat) (hn : σ 277 0 = nI n) (hn6 : n ≤ 6) : MI l yX11_weight cX11_weight 3 (some .int) 2 D ct ek ad N0 X F [.ref (ad 276), .int x, .int y] σ (fun r τ => r = wgV σ x y ∧ τ = thM σ (wgT σ x y)) := by
  refine ms0 (own := RX11) (by decide) rfl (Nat.le_of_ble_eq_true rfl) (fun p e s m args below meth c S hr hlocks hnm G hP hS ls hl => ?_)
  have hx := S.1
  have hb := S.2.1
  replace hl : lv_has ls 3 [(0, .ref (ad 276)), (1, .int x), (2, .int y)] := hl
  refine lv_aload_n hx hb dX11_weight_0 rfl (lv_at hl 0 rfl) ?_
  refine lv_aload_n hx hb dX11_weight_1 rfl (lv_at hl 0 rfl) ?_
  refine lv_iload_n hx hb dX11_weight_2 rfl (lv_at hl 1 rfl) ?_
  refine cVie (As := [.int x]) S G 276 (c_X11_isOne l (D := D) (ct := ct) (ek := ek) (ad := ad) (N0 := N0) (X := X) (F := F) σ x) ok_yX11_isOne ml_RX11_71 (by decide) oM rfl hP hS hl.1 rfl (by decide) rfl rfl (Nat.le_of_ble_eq_true rfl) ⟨Nat.zero_le _, Nat.zero_le _⟩ dX11_weight_3 (fun H locs hP hS => ?_)
  refine lv_if_eq (tgt := 21) hx hb dX11_weight_6 (by decide) (fun c_6 => ?_) (fun c_6 => ?_)
  · refine lv_iconst (v := 1) hx hb dX11_weight_21 (by decide) ?_
    refine pf S G hP hS 276 20 (x := 1) tyX11 tyX11_ok nmX11 (by decide) oM rfl inX11 (by decide) fl_RX11_42 rfl rfl rfl rfl (Nat.le_of_ble_eq_true rfl) oM dX11_weight_22 (fun H locs hP hS => ?_)
    refine lv_aload_n hx hb dX11_weight_25 rfl (lv_at hl 0 rfl) ?_
    refine gf S G hP 276 20 (by decide) oM rfl inX11 (by decide) fl_RX11_42 rfl rfl dX11_weight_26 ?_
    refine lv_tope (y := 1) (by rw [sg_ss]) ?_
    refine lv_if_ne (tgt := 41) hx hb dX11_weight_29 (by decide) (fun c_29 => ?_) (fun c_29 => absurd c_29 (by decide))
    refine lv_iconst (v := 0) hx hb dX11_weight_41 (by decide) ?_
    exact eI S hr hlocks hP hS dX11_weight_42 (by first | (refine ⟨?_, ?_⟩ <;> simp only [wgV, wgT, thM, c_6, c_29, ↓reduceIte, if_true, if_false, eq_self]; done) | (refine ⟨?_, rfl⟩; simp only [wgV, wgT, thM, c_6, c_29, ↓reduceIte, if_true, if_false, eq_self]; done) | exact ⟨rfl, rfl⟩ | (refine ⟨?_, rfl⟩; simp [wgV, wgT, thM, c_6, c_29]; done) | (simp [wgV, wgT, thM, c_6, c_29]; done) | grind [wgV, wgT, thM])
  · refine lv_aload_n hx hb dX11_weight_9 rfl (lv_at hl 0 rfl) ?_
    refine lv_iload_n hx hb dX11_weight_10 rfl (lv_at hl 2 rfl) ?_
    refine cVie (As := [.int y]) S G 276 (c_X11_isOne l (D := D) (ct := ct) (ek := ek) (ad := ad) (N0 := N0) (X := X) (F := F) σ y) ok_yX11_isOne ml_RX11_71 (by decide) oM rfl hP hS hl.1 rfl (by decide) rfl rfl (Nat.le_of_ble_eq_true rfl) ⟨Nat.zero_le _, Nat.zero_le _⟩ dX11_weight_11 (fun H locs hP hS => ?_)
    refine lv_if_eq (tgt := 21) hx hb dX11_weight_14 (by decide) (fun c_14 => ?_) (fun c_14 => ?_)
    · refine lv_iconst (v := 1) hx hb dX11_weight_21 (by decide) ?_
      refine pf S G hP hS 276 20 (x := 1) tyX11 tyX11_ok nmX11 (by decide) oM rfl inX11 (by decide) fl_RX11_42 rfl rfl rfl rfl (Nat.le_of_ble_eq_true rfl) oM dX11_weight_22 (fun H locs hP hS => ?_)
      refine lv_aload_n hx hb dX11_weight_25 rfl (lv_at hl 0 rfl) ?_
      refine gf S G hP 276 20 (by decide) oM rfl inX11 (by decide) fl_RX11_42 rfl rfl dX11_weight_26 ?_
      refine lv_tope (y := 1) (by rw [sg_ss]) ?_
      refine lv_if_ne (tgt := 41) hx hb dX11_weight_29 (by decide) (fun c_29 => ?_) (fun c_29 => absurd c_29 (by decide))
      refine lv_iconst (v := 0) hx hb dX11_weight_41 (by decide) ?_
      exact eI S hr hlocks hP hS dX11_weight_42 (by first | (refine ⟨?_, ?_⟩ <;> simp only [wgV, wgT, thM, c_6, c_14, c_29, ↓reduceIte, if_true, if_false, eq_self]; done) | (refine ⟨?_, rfl⟩; simp only [wgV, wgT, thM, c_6, c_14, c_29, ↓reduceIte, if_true, if_false, eq_self]; done) | exact ⟨rfl, rfl⟩ | (refine ⟨?_, rfl⟩; simp [wgV, wgT, thM, c_6, c_14, c_29]; done) | (simp [wgV, wgT, thM, c_6, c_14, c_29]; done) | grind [wgV, wgT, thM])
    · refine lv_iconst (v := 0) hx hb dX11_weight_17 (by decide) ?_
      refine lv_goto (tgt := 22) hx hb dX11_weight_18 (by decide) ?_
      refine pf S G hP hS 276 20 (x := 0) tyX11 tyX11_ok nmX11 (by decide) oM rfl inX11 (by decide) fl_RX11_42 rfl rfl rfl rfl (Nat.le_of_ble_eq_true rfl) oM dX11_weight_22 (fun H locs hP hS => ?_)
      refine lv_aload_n hx hb dX11_weight_25 rfl (lv_at hl 0 rfl) ?_
      refine gf S G hP 276 20 (by decide) oM rfl inX11 (by decide) fl_RX11_42 rfl rfl dX11_weight_26 ?_
      refine lv_tope (y := 0) (by rw [sg_ss]) ?_
      refine lv_if_ne (tgt := 41) hx hb dX11_weight_29 (by decide) (fun c_29 => absurd rfl c_29) (fun c_29 => ?_)
      obtain ⟨h1, h1l⟩ := rngN (show ¬ rngB x 0 (σ 277 0 - 1) = 0 from c_6) hn (by omega)
      obtain ⟨h2, h2l⟩ := rngN (show ¬ rngB y 0 (σ 277 0 - 1) = 0 from c_14) hn (by omega)
      refine lv_aload_n hx hb dX11_weight_32 rfl (lv_at hl 0 rfl) ?_
      refine lv_iload_n hx hb dX11_weight_33 rfl (lv_at hl 1 rfl) ?_
      refine lv_tope (y := nI (tN (x))) h1 ?_
      refine lv_iload_n hx hb dX11_weight_34 rfl (lv_at hl 2 rfl) ?_
      refine lv_tope (y := nI (tN (y))) h2 ?_
      refine cVie (As := [.int (nI (tN (x))), .int (nI (tN (y)))]) S G 276 (c_X11_weighs l (D := D) (ct := ct) (ek := ek) (ad := ad) (N0 := N0) (X := X) (F := F) (sg σ 276 20 0) (tN (x)) (by omega) (tN (y)) (by omega)) ok_yX11_weighs ml_RX11_91 (by decide) oM rfl hP hS hl.1 rfl (by decide) rfl rfl (Nat.le_of_ble_eq_true rfl) ⟨Nat.zero_le _, Nat.zero_le _⟩ dX11_weight_35 (fun H locs hP hS => ?_)
      refine lv_tope (y := σ 277 (36 + 6 * tN x + tN y)) (by rw [th_r]) ?_
      refine lv_goto (tgt := 42) hx hb dX11_weight_38 (by decide) ?_
      exact eI S hr hlocks hP hS dX11_weight_42 (by first | (refine ⟨?_, ?_⟩ <;> simp only [wgV, wgT, thM, c_6, c_14, c_29, ↓reduceIte, if_true, if_false, eq_self]; done) | (refine ⟨?_, rfl⟩; simp only [wgV, wgT, thM, c_6, c_14, c_29, ↓reduceIte, if_true, if_false, eq_self]; done) | exact ⟨rfl, rfl⟩ | (refine ⟨?_, rfl⟩; simp [wgV, wgT, thM, c_6, c_14, c_29]; done) | (simp [wgV, wgT, thM, c_6, c_14, c_29]; done) | grind [wgV, wgT, thM])

theorem ok_yX11_beamOf : COK RX11 yX11_beamOf cX11_beamOf 3 (some .int) 2 := ⟨im_yX11_beamOf, se_RX11_yX11_beamOf, in_RX11, co_yX11_beamOf, ⟨rfl, by decide +kernel, by decide +kernel, by decide +kernel⟩, by decide⟩
set_option maxHeartbeats 1000000 in
set_option maxRecDepth 100000 in
theorem c_X11_beamOf (l : Launch) {D : va_G} {ct : Nat → ClassId} {ek ad : Nat → Nat} {N0 : Nat} {X : va_W} {F : State → Prop} (σ : Mem) (x : Int32) (y : Int32) (n : Nat) (mb : Nat) (hR : RowOK (σ 277) n mb) : MI l yX11_beamOf cX11_beamOf 3 (some .int) 2 D ct ek ad N0 X F [.ref (ad 276), .int x, .int y] σ (fun r τ => r = bofV σ x y ∧ τ = thM σ (bofT σ x y)) := by
  refine ms0 (own := RX11) (by decide) rfl (Nat.le_of_ble_eq_true rfl) (fun p e s m args below meth c S hr hlocks hnm G hP hS ls hl => ?_)
  have hx := S.1
  have hb := S.2.1
  replace hl : lv_has ls 3 [(0, .ref (ad 276)), (1, .int x), (2, .int y)] := hl
  have hn := hR.1
  have hn6 := hR.2.1
  have hm := hR.2.2.1
  have hm6 := hR.2.2.2.1
  have hBq := hR.2.2.2.2.2.2
  refine lv_aload_n hx hb dX11_beamOf_0 rfl (lv_at hl 0 rfl) ?_
  refine lv_iconst (v := 0) hx hb dX11_beamOf_1 (by decide) ?_
  refine pf S G hP hS 276 20 (x := 0) tyX11 tyX11_ok nmX11 (by decide) oM rfl inX11 (by decide) fl_RX11_42 rfl rfl rfl rfl (Nat.le_of_ble_eq_true rfl) oM dX11_beamOf_2 (fun H locs hP hS => ?_)
  refine lv_iload_n hx hb dX11_beamOf_5 rfl (lv_at hl 1 rfl) ?_
  refine lv_iconst (v := 0) hx hb dX11_beamOf_6 (by decide) ?_
  refine lv_aload_n hx hb dX11_beamOf_7 rfl (lv_at hl 0 rfl) ?_
  refine gf S G hP 276 0 (by decide) oM rfl inX11 (by decide) fl_RX11_9 rfl rfl dX11_beamOf_8 ?_
  refine lv_iconst (v := 1) hx hb dX11_beamOf_11 (by decide) ?_
  refine ald S G hP 277 1 (by decide) (aM277 _) (by decide) (by omega) (by decide) dX11_beamOf_12 ?_
  refine lv_iconst (v := 1) hx hb dX11_beamOf_13 (by decide) ?_
  refine lv_isub hx hb dX11_beamOf_14 ?_
  refine cSie (As := [.int x, .int 0, .int (((sg σ 276 20 0) 277 1) - 1)]) S G (c_X11_in l (D := D) (ct := ct) (ek := ek) (ad := ad) (N0 := N0) (X := X) (F := F) (sg σ 276 20 0) x 0 (((sg σ 276 20 0) 277 1) - 1)) ok_yX11_in ml_RX11_67 hP hS hl.1 rfl (by decide) rfl rfl (Nat.le_of_ble_eq_true rfl) ⟨Nat.zero_le _, Nat.zero_le _⟩ dX11_beamOf_15 (fun H locs hP hS => ?_)
  refine lv_tope (y := mn1 σ x) (by simp [mn1, sg_at]) ?_
  refine lv_if_ne (tgt := 27) hx hb dX11_beamOf_18 (by decide) (fun c_18 => ?_) (fun c_18 => ?_)
  · refine lv_iload_n hx hb dX11_beamOf_27 rfl (lv_at hl 2 rfl) ?_
    obtain ⟨h1, h1l⟩ := rngN (show ¬ rngB x 0 (σ 277 1 - 1) = 0 from c_18) hm (by omega)
    refine lv_iconst (v := 0) hx hb dX11_beamOf_28 (by decide) ?_
    refine lv_iconst (v := 4) hx hb dX11_beamOf_29 (by decide) ?_
    refine cSie (As := [.int y, .int 0, .int 4]) S G (c_X11_in l (D := D) (ct := ct) (ek := ek) (ad := ad) (N0 := N0) (X := X) (F := F) (sg σ 276 20 0) y 0 4) ok_yX11_in ml_RX11_67 hP hS hl.1 rfl (by decide) rfl rfl (Nat.le_of_ble_eq_true rfl) ⟨Nat.zero_le _, Nat.zero_le _⟩ dX11_beamOf_30 (fun H locs hP hS => ?_)
    refine lv_if_ne (tgt := 42) hx hb dX11_beamOf_33 (by decide) (fun c_33 => ?_) (fun c_33 => ?_)
    · refine lv_iload_n hx hb dX11_beamOf_42 rfl (lv_at hl 2 rfl) ?_
      refine lv_iconst (v := 4) hx hb dX11_beamOf_43 (by decide) ?_
      refine lv_icmp_ne (tgt := 55) hx hb dX11_beamOf_44 (by decide) (fun c_44 => ?_) (fun c_44 => ?_)
      · refine lv_aload_n hx hb dX11_beamOf_55 rfl (lv_at hl 0 rfl) ?_
        refine lv_iload_n hx hb dX11_beamOf_56 rfl (lv_at hl 1 rfl) ?_
        refine lv_tope (y := nI (tN (x))) h1 ?_
        obtain ⟨h2, h2l⟩ := rngL (n := 4) c_33 rfl (by decide)
        have h24 : tN y < 4 := by have h25 := tN_ne (n := 4) h2 c_44; omega
        refine lv_iload_n hx hb dX11_beamOf_57 rfl (lv_at hl 2 rfl) ?_
        refine lv_tope (y := nI (tN (y))) h2 ?_
        refine cVie (As := [.int (nI (tN (x))), .int (nI (tN (y)))]) S G 276 (c_X11_beam l (D := D) (ct := ct) (ek := ek) (ad := ad) (N0 := N0) (X := X) (F := F) (sg σ 276 20 0) (tN (x)) (by omega) (tN (y)) (by omega)) ok_yX11_beam ml_RX11_79 (by decide) oM rfl hP hS hl.1 rfl (by decide) rfl rfl (Nat.le_of_ble_eq_true rfl) ⟨Nat.zero_le _, Nat.zero_le _⟩ dX11_beamOf_58 (fun H locs hP hS => ?_)
        refine lv_tope (y := σ 277 (72 + 4 * tN x + tN y)) (by rw [th_r]) ?_
        exact eI S hr hlocks hP hS dX11_beamOf_61 (by first | (refine ⟨?_, ?_⟩ <;> simp only [bofV, bofT, thM, sg_sg, c_18, c_33, c_44, ↓reduceIte, if_true, if_false, eq_self]; done) | (refine ⟨?_, rfl⟩; simp only [bofV, bofT, thM, sg_sg, c_18, c_33, c_44, ↓reduceIte, if_true, if_false, eq_self]; done) | exact ⟨rfl, rfl⟩ | (refine ⟨?_, rfl⟩; simp [bofV, bofT, thM, sg_sg, c_18, c_33, c_44]; done) | (simp [bofV, bofT, thM, sg_sg, c_18, c_33, c_44]; done) | grind [bofV, bofT, thM, sg_sg])
      · refine lv_aload_n hx hb dX11_beamOf_47 rfl (lv_at hl 0 rfl) ?_
        refine lv_iload_n hx hb dX11_beamOf_48 rfl (lv_at hl 1 rfl) ?_
        refine lv_tope (y := nI (tN (x))) h1 ?_
        refine cVie (As := [.int (nI (tN (x)))]) S G 276 (c_X11_apart l (D := D) (ct := ct) (ek := ek) (ad := ad) (N0 := N0) (X := X) (F := F) (sg σ 276 20 0) (tN (x)) (by omega) (by rw [th_r]; exact hBq (tN x) (by omega))) ok_yX11_apart ml_RX11_135 (by decide) oM rfl hP hS hl.1 rfl (by decide) rfl rfl (Nat.le_of_ble_eq_true rfl) ⟨Nat.zero_le _, Nat.zero_le _⟩ dX11_beamOf_49 (fun H locs hP hS => ?_)
        refine lv_tope (y := apR (σ 277) (tN x)) (by rw [th_r]) ?_
        refine lv_goto (tgt := 61) hx hb dX11_beamOf_52 (by decide) ?_
        exact eI S hr hlocks hP hS dX11_beamOf_61 (by first | (refine ⟨?_, ?_⟩ <;> simp only [bofV, bofT, thM, sg_sg, c_18, c_33, c_44, ↓reduceIte, if_true, if_false, eq_self]; done) | (refine ⟨?_, rfl⟩; simp only [bofV, bofT, thM, sg_sg, c_18, c_33, c_44, ↓reduceIte, if_true, if_false, eq_self]; done) | exact ⟨rfl, rfl⟩ | (refine ⟨?_, rfl⟩; simp [bofV, bofT, thM, sg_sg, c_18, c_33, c_44]; done) | (simp [bofV, bofT, thM, sg_sg, c_18, c_33, c_44]; done) | grind [bofV, bofT, thM, sg_sg])
    · refine lv_aload_n hx hb dX11_beamOf_36 rfl (lv_at hl 0 rfl) ?_
      refine lv_iconst (v := 2) hx hb dX11_beamOf_37 (by decide) ?_
      refine cVie (As := [.int 2]) S G 276 (c_X11_raises l (D := D) (ct := ct) (ek := ek) (ad := ad) (N0 := N0) (X := X) (F := F) (sg σ 276 20 0) 2) ok_yX11_raises ml_RX11_64 (by decide) oM rfl hP hS hl.1 rfl (by decide) rfl rfl (Nat.le_of_ble_eq_true rfl) ⟨Nat.zero_le _, Nat.zero_le _⟩ dX11_beamOf_38 (fun H locs hP hS => ?_)
      exact eI S hr hlocks hP hS dX11_beamOf_41 (by first | (refine ⟨?_, ?_⟩ <;> simp only [bofV, bofT, thM, sg_sg, c_18, c_33, ↓reduceIte, if_true, if_false, eq_self]; done) | (refine ⟨?_, rfl⟩; simp only [bofV, bofT, thM, sg_sg, c_18, c_33, ↓reduceIte, if_true, if_false, eq_self]; done) | exact ⟨rfl, rfl⟩ | (refine ⟨?_, rfl⟩; simp [bofV, bofT, thM, sg_sg, c_18, c_33]; done) | (simp [bofV, bofT, thM, sg_sg, c_18, c_33]; done) | grind [bofV, bofT, thM, sg_sg])
  · refine lv_aload_n hx hb dX11_beamOf_21 rfl (lv_at hl 0 rfl) ?_
    refine lv_iconst (v := 1) hx hb dX11_beamOf_22 (by decide) ?_
    refine cVie (As := [.int 1]) S G 276 (c_X11_raises l (D := D) (ct := ct) (ek := ek) (ad := ad) (N0 := N0) (X := X) (F := F) (sg σ 276 20 0) 1) ok_yX11_raises ml_RX11_64 (by decide) oM rfl hP hS hl.1 rfl (by decide) rfl rfl (Nat.le_of_ble_eq_true rfl) ⟨Nat.zero_le _, Nat.zero_le _⟩ dX11_beamOf_23 (fun H locs hP hS => ?_)
    exact eI S hr hlocks hP hS dX11_beamOf_26 (by first | (refine ⟨?_, ?_⟩ <;> simp only [bofV, bofT, thM, sg_sg, c_18, ↓reduceIte, if_true, if_false, eq_self]; done) | (refine ⟨?_, rfl⟩; simp only [bofV, bofT, thM, sg_sg, c_18, ↓reduceIte, if_true, if_false, eq_self]; done) | exact ⟨rfl, rfl⟩ | (refine ⟨?_, rfl⟩; simp [bofV, bofT, thM, sg_sg, c_18]; done) | (simp [bofV, bofT, thM, sg_sg, c_18]; done) | grind [bofV, bofT, thM, sg_sg])

theorem ok_yX11_side : COK RX11 yX11_side cX11_side 2 (some .int) 1 := ⟨im_yX11_side, se_RX11_yX11_side, in_RX11, co_yX11_side, ⟨rfl, by decide +kernel, by decide +kernel, by decide +kernel⟩, by decide⟩
set_option maxHeartbeats 1000000 in
set_option maxRecDepth 100000 in
theorem c_X11_side (l : Launch) {D : va_G} {ct : Nat → ClassId} {ek ad : Nat → Nat} {N0 : Nat} {X : va_W} {F : State → Prop} (σ : Mem) (i : Nat) (hi : i < 6) : MI l yX11_side cX11_side 2 (some .int) 1 D ct ek ad N0 X F [.ref (ad 276), .int (nI i)] σ (fun r τ => r = sdR (σ 277) i ∧ τ = σ) := by
  refine ms0 (own := RX11) (by decide) rfl (Nat.le_of_ble_eq_true rfl) (fun p e s m args below meth c S hr hlocks hnm G hP hS ls hl => ?_)
  have hx := S.1
  have hb := S.2.1
  replace hl : lv_has ls 2 [(0, .ref (ad 276)), (1, .int (nI i))] := hl
  refine lv_aload_n hx hb dX11_side_0 rfl (lv_at hl 0 rfl) ?_
  refine lv_iload_n hx hb dX11_side_1 rfl (lv_at hl 1 rfl) ?_
  refine lv_iconst (v := 0) hx hb dX11_side_2 (by decide) ?_
  refine cVie (As := [.int (nI i), .int (nI 0)]) S G 276 (c_X11_of l (D := D) (ct := ct) (ek := ek) (ad := ad) (N0 := N0) (X := X) (F := F) σ i (by omega) 0 (by omega)) ok_yX11_of ml_RX11_83 (by decide) oM rfl hP hS hl.1 rfl (by decide) rfl rfl (Nat.le_of_ble_eq_true rfl) ⟨Nat.zero_le _, Nat.zero_le _⟩ dX11_side_3 (fun H locs hP hS => ?_)
  refine cSie (As := [.int (σ 277 (6 + 5 * i + 0))]) S G (c_J6_signum_0f7a4 l (D := D) (ct := ct) (ek := ek) (ad := ad) (N0 := N0) (X := X) (F := F) σ (σ 277 (6 + 5 * i + 0))) ok_yJ6_signum_0f7a4 ml_RX11_168 hP hS hl.1 rfl (by decide) rfl rfl (Nat.le_of_ble_eq_true rfl) ⟨Nat.zero_le _, Nat.zero_le _⟩ dX11_side_6 (fun H locs hP hS => ?_)
  exact eI S hr hlocks hP hS dX11_side_9 (by first | exact ⟨rfl, rfl⟩ | (refine ⟨?_, rfl⟩; simp [sdR]; done) | (simp [sdR]; done) | (simp only [sdR, ↓reduceIte, if_true, if_false, and_self, true_and]; done) | grind [sdR])

theorem ok_yX11_lean : COK RX11 yX11_lean cX11_lean 2 (some .int) 1 := ⟨im_yX11_lean, se_RX11_yX11_lean, in_RX11, co_yX11_lean, ⟨rfl, by decide +kernel, by decide +kernel, by decide +kernel⟩, by decide⟩
set_option maxHeartbeats 1000000 in
set_option maxRecDepth 100000 in
theorem c_X11_lean (l : Launch) {D : va_G} {ct : Nat → ClassId} {ek ad : Nat → Nat} {N0 : Nat} {X : va_W} {F : State → Prop} (σ : Mem) (x : Int32) (n : Nat) (hn : σ 277 0 = nI n) (hn6 : n ≤ 6) : MI l yX11_lean cX11_lean 2 (some .int) 2 D ct ek ad N0 X F [.ref (ad 276), .int x] σ (fun r τ => r = qV σ x (sdR (σ 277) (tN x)) ∧ τ = qM σ x) := by
  refine ms0 (own := RX11) (by decide) rfl (Nat.le_of_ble_eq_true rfl) (fun p e s m args below meth c S hr hlocks hnm G hP hS ls hl => ?_)
  have hx := S.1
  have hb := S.2.1
  replace hl : lv_has ls 2 [(0, .ref (ad 276)), (1, .int x)] := hl
  refine lv_aload_n hx hb dX11_lean_0 rfl (lv_at hl 0 rfl) ?_
  refine lv_aload_n hx hb dX11_lean_1 rfl (lv_at hl 0 rfl) ?_
  refine lv_iload_n hx hb dX11_lean_2 rfl (lv_at hl 1 rfl) ?_
  refine cVie (As := [.int x]) S G 276 (c_X11_isOne l (D := D) (ct := ct) (ek := ek) (ad := ad) (N0 := N0) (X := X) (F := F) σ x) ok_yX11_isOne ml_RX11_71 (by decide) oM rfl hP hS hl.1 rfl (by decide) rfl rfl (Nat.le_of_ble_eq_true rfl) ⟨Nat.zero_le _, Nat.zero_le _⟩ dX11_lean_3 (fun H locs hP hS => ?_)
  refine lv_if_eq (tgt := 13) hx hb dX11_lean_6 (by decide) (fun c_6 => ?_) (fun c_6 => ?_)
  · refine lv_iconst (v := 1) hx hb dX11_lean_13 (by decide) ?_
    refine pf S G hP hS 276 20 (x := 1) tyX11 tyX11_ok nmX11 (by decide) oM rfl inX11 (by decide) fl_RX11_42 rfl rfl rfl rfl (Nat.le_of_ble_eq_true rfl) oM dX11_lean_14 (fun H locs hP hS => ?_)
    refine lv_aload_n hx hb dX11_lean_17 rfl (lv_at hl 0 rfl) ?_
    refine gf S G hP 276 20 (by decide) oM rfl inX11 (by decide) fl_RX11_42 rfl rfl dX11_lean_18 ?_
    refine lv_tope (y := 1) (by rw [sg_ss]) ?_
    refine lv_if_ne (tgt := 32) hx hb dX11_lean_21 (by decide) (fun c_21 => ?_) (fun c_21 => absurd c_21 (by decide))
    refine lv_iconst (v := 0) hx hb dX11_lean_32 (by decide) ?_
    exact eI S hr hlocks hP hS dX11_lean_33 (by first | (refine ⟨?_, ?_⟩ <;> simp only [qV, qM, thM, c_6, c_21, ↓reduceIte, if_true, if_false, eq_self]; done) | (refine ⟨?_, rfl⟩; simp only [qV, qM, thM, c_6, c_21, ↓reduceIte, if_true, if_false, eq_self]; done) | exact ⟨rfl, rfl⟩ | (refine ⟨?_, rfl⟩; simp [qV, qM, thM, c_6, c_21]; done) | (simp [qV, qM, thM, c_6, c_21]; done) | grind [qV, qM, thM])
  · refine lv_iconst (v := 0) hx hb dX11_lean_9 (by decide) ?_
    refine lv_goto (tgt := 14) hx hb dX11_lean_10 (by decide) ?_
    refine pf S G hP hS 276 20 (x := 0) tyX11 tyX11_ok nmX11 (by decide) oM rfl inX11 (by decide) fl_RX11_42 rfl rfl rfl rfl (Nat.le_of_ble_eq_true rfl) oM dX11_lean_14 (fun H locs hP hS => ?_)
    refine lv_aload_n hx hb dX11_lean_17 rfl (lv_at hl 0 rfl) ?_
    refine gf S G hP 276 20 (by decide) oM rfl inX11 (by decide) fl_RX11_42 rfl rfl dX11_lean_18 ?_
    refine lv_tope (y := 0) (by rw [sg_ss]) ?_
    refine lv_if_ne (tgt := 32) hx hb dX11_lean_21 (by decide) (fun c_21 => absurd rfl c_21) (fun c_21 => ?_)
    obtain ⟨h1, h1l⟩ := rngN (show ¬ rngB x 0 (σ 277 0 - 1) = 0 from c_6) hn (by omega)
    refine lv_aload_n hx hb dX11_lean_24 rfl (lv_at hl 0 rfl) ?_
    refine lv_iload_n hx hb dX11_lean_25 rfl (lv_at hl 1 rfl) ?_
    refine lv_tope (y := nI (tN (x))) h1 ?_
    refine cVie (As := [.int (nI (tN (x)))]) S G 276 (c_X11_side l (D := D) (ct := ct) (ek := ek) (ad := ad) (N0 := N0) (X := X) (F := F) (sg σ 276 20 0) (tN (x)) (by omega)) ok_yX11_side ml_RX11_173 (by decide) oM rfl hP hS hl.1 rfl (by decide) rfl rfl (Nat.le_of_ble_eq_true rfl) ⟨Nat.zero_le _, Nat.zero_le _⟩ dX11_lean_26 (fun H locs hP hS => ?_)
    refine lv_tope (y := sdR (σ 277) (tN x)) (by rw [th_r]) ?_
    refine lv_goto (tgt := 33) hx hb dX11_lean_29 (by decide) ?_
    exact eI S hr hlocks hP hS dX11_lean_33 (by first | (refine ⟨?_, ?_⟩ <;> simp only [qV, qM, thM, c_6, c_21, ↓reduceIte, if_true, if_false, eq_self]; done) | (refine ⟨?_, rfl⟩; simp only [qV, qM, thM, c_6, c_21, ↓reduceIte, if_true, if_false, eq_self]; done) | exact ⟨rfl, rfl⟩ | (refine ⟨?_, rfl⟩; simp [qV, qM, thM, c_6, c_21]; done) | (simp [qV, qM, thM, c_6, c_21]; done) | grind [qV, qM, thM])

theorem ok_yX11_mean : COK RX11 yX11_mean cX11_mean 2 (some .int) 1 := ⟨im_yX11_mean, se_RX11_yX11_mean, in_RX11, co_yX11_mean, ⟨rfl, by decide +kernel, by decide +kernel, by decide +kernel⟩, by decide⟩
set_option maxHeartbeats 1000000 in
set_option maxRecDepth 100000 in
theorem c_X11_mean (l : Launch) {D : va_G} {ct : Nat → ClassId} {ek ad : Nat → Nat} {N0 : Nat} {X : va_W} {F : State → Prop} (σ : Mem) (x : Int32) (n : Nat) (mb : Nat) (hR : RowOK (σ 277) n mb) : MI l yX11_mean cX11_mean 2 (some .int) 3 D ct ek ad N0 X F [.ref (ad 276), .int x] σ (fun r τ => r = qV σ x (mnR (σ 277) n (tN x)) ∧ τ = qM σ x) := by
  refine ms0 (own := RX11) (by decide) rfl (Nat.le_of_ble_eq_true rfl) (fun p e s m args below meth c S hr hlocks hnm G hP hS ls hl => ?_)
  have hx := S.1
  have hb := S.2.1
  replace hl : lv_has ls 2 [(0, .ref (ad 276)), (1, .int x)] := hl
  have hn := hR.1
  have hn6 := hR.2.1
  have hm := hR.2.2.1
  have hm6 := hR.2.2.2.1
  have hBq := hR.2.2.2.2.2.2
  refine lv_aload_n hx hb dX11_mean_0 rfl (lv_at hl 0 rfl) ?_
  refine lv_aload_n hx hb dX11_mean_1 rfl (lv_at hl 0 rfl) ?_
  refine lv_iload_n hx hb dX11_mean_2 rfl (lv_at hl 1 rfl) ?_
  refine cVie (As := [.int x]) S G 276 (c_X11_isOne l (D := D) (ct := ct) (ek := ek) (ad := ad) (N0 := N0) (X := X) (F := F) σ x) ok_yX11_isOne ml_RX11_71 (by decide) oM rfl hP hS hl.1 rfl (by decide) rfl rfl (Nat.le_of_ble_eq_true rfl) ⟨Nat.zero_le _, Nat.zero_le _⟩ dX11_mean_3 (fun H locs hP hS => ?_)
  refine lv_if_eq (tgt := 13) hx hb dX11_mean_6 (by decide) (fun c_6 => ?_) (fun c_6 => ?_)
  · refine lv_iconst (v := 1) hx hb dX11_mean_13 (by decide) ?_
    refine pf S G hP hS 276 20 (x := 1) tyX11 tyX11_ok nmX11 (by decide) oM rfl inX11 (by decide) fl_RX11_42 rfl rfl rfl rfl (Nat.le_of_ble_eq_true rfl) oM dX11_mean_14 (fun H locs hP hS => ?_)
    refine lv_aload_n hx hb dX11_mean_17 rfl (lv_at hl 0 rfl) ?_
    refine gf S G hP 276 20 (by decide) oM rfl inX11 (by decide) fl_RX11_42 rfl rfl dX11_mean_18 ?_
    refine lv_tope (y := 1) (by rw [sg_ss]) ?_
    refine lv_if_ne (tgt := 32) hx hb dX11_mean_21 (by decide) (fun c_21 => ?_) (fun c_21 => absurd c_21 (by decide))
    refine lv_iconst (v := 0) hx hb dX11_mean_32 (by decide) ?_
    exact eI S hr hlocks hP hS dX11_mean_33 (by first | (refine ⟨?_, ?_⟩ <;> simp only [qV, qM, thM, c_6, c_21, ↓reduceIte, if_true, if_false, eq_self]; done) | (refine ⟨?_, rfl⟩; simp only [qV, qM, thM, c_6, c_21, ↓reduceIte, if_true, if_false, eq_self]; done) | exact ⟨rfl, rfl⟩ | (refine ⟨?_, rfl⟩; simp [qV, qM, thM, c_6, c_21]; done) | (simp [qV, qM, thM, c_6, c_21]; done) | grind [qV, qM, thM])
  · refine lv_iconst (v := 0) hx hb dX11_mean_9 (by decide) ?_
    refine lv_goto (tgt := 14) hx hb dX11_mean_10 (by decide) ?_
    refine pf S G hP hS 276 20 (x := 0) tyX11 tyX11_ok nmX11 (by decide) oM rfl inX11 (by decide) fl_RX11_42 rfl rfl rfl rfl (Nat.le_of_ble_eq_true rfl) oM dX11_mean_14 (fun H locs hP hS => ?_)
    refine lv_aload_n hx hb dX11_mean_17 rfl (lv_at hl 0 rfl) ?_
    refine gf S G hP 276 20 (by decide) oM rfl inX11 (by decide) fl_RX11_42 rfl rfl dX11_mean_18 ?_
    refine lv_tope (y := 0) (by rw [sg_ss]) ?_
    refine lv_if_ne (tgt := 32) hx hb dX11_mean_21 (by decide) (fun c_21 => absurd rfl c_21) (fun c_21 => ?_)
    obtain ⟨h1, h1l⟩ := rngN (show ¬ rngB x 0 (σ 277 0 - 1) = 0 from c_6) hn (by omega)
    refine lv_aload_n hx hb dX11_mean_24 rfl (lv_at hl 0 rfl) ?_
    refine lv_iload_n hx hb dX11_mean_25 rfl (lv_at hl 1 rfl) ?_
    refine lv_tope (y := nI (tN (x))) h1 ?_
    refine cVie (As := [.int (nI (tN (x)))]) S G 276 (c_X11_meanOf l (D := D) (ct := ct) (ek := ek) (ad := ad) (N0 := N0) (X := X) (F := F) (sg σ 276 20 0) (tN (x)) (by omega) n (by first | assumption | omega | (simp [sg_at]; assumption) | (simp [sg_at]; done)) (by omega) (by rw [th_r]; exact hR.hd (by omega))) ok_yX11_meanOf ml_RX11_100 (by decide) oM rfl hP hS hl.1 rfl (by decide) rfl rfl (Nat.le_of_ble_eq_true rfl) ⟨Nat.zero_le _, Nat.zero_le _⟩ dX11_mean_26 (fun H locs hP hS => ?_)
    refine lv_tope (y := mnR (σ 277) n (tN x)) (by rw [th_r]) ?_
    refine lv_goto (tgt := 33) hx hb dX11_mean_29 (by decide) ?_
    exact eI S hr hlocks hP hS dX11_mean_33 (by first | (refine ⟨?_, ?_⟩ <;> simp only [qV, qM, thM, c_6, c_21, ↓reduceIte, if_true, if_false, eq_self]; done) | (refine ⟨?_, rfl⟩; simp only [qV, qM, thM, c_6, c_21, ↓reduceIte, if_true, if_false, eq_self]; done) | exact ⟨rfl, rfl⟩ | (refine ⟨?_, rfl⟩; simp [qV, qM, thM, c_6, c_21]; done) | (simp [qV, qM, thM, c_6, c_21]; done) | grind [qV, qM, thM])

theorem ok_yX11_meanAgain : COK RX11 yX11_meanAgain cX11_meanAgain 2 (some .int) 1 := ⟨im_yX11_meanAgain, se_RX11_yX11_meanAgain, in_RX11, co_yX11_meanAgain, ⟨rfl, by decide +kernel, by decide +kernel, by decide +kernel⟩, by decide⟩
set_option maxHeartbeats 1000000 in
set_option maxRecDepth 100000 in
theorem c_X11_meanAgain (l : Launch) {D : va_G} {ct : Nat → ClassId} {ek ad : Nat → Nat} {N0 : Nat} {X : va_W} {F : State → Prop} (σ : Mem) (x : Int32) (n : Nat) (mb : Nat) (hR : RowOK (σ 277) n mb) : MI l yX11_meanAgain cX11_meanAgain 2 (some .int) 4 D ct ek ad N0 X F [.ref (ad 276), .int x] σ (fun r τ => r = qV σ x (mnR (σ 277) n (tN x)) ∧ τ = qM σ x) := by
  refine ms0 (own := RX11) (by decide) rfl (Nat.le_of_ble_eq_true rfl) (fun p e s m args below meth c S hr hlocks hnm G hP hS ls hl => ?_)
  have hx := S.1
  have hb := S.2.1
  replace hl : lv_has ls 2 [(0, .ref (ad 276)), (1, .int x)] := hl
  refine lv_aload_n hx hb dX11_meanAgain_0 rfl (lv_at hl 0 rfl) ?_
  refine lv_iload_n hx hb dX11_meanAgain_1 rfl (lv_at hl 1 rfl) ?_
  refine cVie (As := [.int x]) S G 276 (c_X11_mean l (D := D) (ct := ct) (ek := ek) (ad := ad) (N0 := N0) (X := X) (F := F) σ x n mb (by first | assumption | omega | (simp [sg_at]; assumption) | (simp [sg_at]; done))) ok_yX11_mean ml_RX11_176 (by decide) oM rfl hP hS hl.1 rfl (by decide) rfl rfl (Nat.le_of_ble_eq_true rfl) ⟨Nat.zero_le _, Nat.zero_le _⟩ dX11_meanAgain_2 (fun H locs hP hS => ?_)
  exact eI S hr hlocks hP hS dX11_meanAgain_5 (by first | exact ⟨rfl, rfl⟩ | (refine ⟨?_, rfl⟩; simp []; done) | (simp []; done) | (simp only [↓reduceIte, if_true, if_false, and_self, true_and]; done) | grind [])

theorem ok_yX11_wouldMove : COK RX11 yX11_wouldMove cX11_wouldMove 2 (some .int) 1 := ⟨im_yX11_wouldMove, se_RX11_yX11_wouldMove, in_RX11, co_yX11_wouldMove, ⟨rfl, by decide +kernel, by decide +kernel, by decide +kernel⟩, by decide⟩
set_option maxHeartbeats 1000000 in
set_option maxRecDepth 100000 in
theorem c_X11_wouldMove (l : Launch) {D : va_G} {ct : Nat → ClassId} {ek ad : Nat → Nat} {N0 : Nat} {X : va_W} {F : State → Prop} (σ : Mem) (x : Int32) (n : Nat) (mb : Nat) (hR : RowOK (σ 277) n mb) : MI l yX11_wouldMove cX11_wouldMove 2 (some .int) 4 D ct ek ad N0 X F [.ref (ad 276), .int x] σ (fun r τ => r = qV σ x (mvR (σ 277) n (tN x)) ∧ τ = qM σ x) := by
  refine ms0 (own := RX11) (by decide) rfl (Nat.le_of_ble_eq_true rfl) (fun p e s m args below meth c S hr hlocks hnm G hP hS ls hl => ?_)
  have hx := S.1
  have hb := S.2.1
  replace hl : lv_has ls 2 [(0, .ref (ad 276)), (1, .int x)] := hl
  have hn := hR.1
  have hn6 := hR.2.1
  have hm := hR.2.2.1
  have hm6 := hR.2.2.2.1
  have hBq := hR.2.2.2.2.2.2
  refine lv_aload_n hx hb dX11_wouldMove_0 rfl (lv_at hl 0 rfl) ?_
  refine lv_aload_n hx hb dX11_wouldMove_1 rfl (lv_at hl 0 rfl) ?_
  refine lv_iload_n hx hb dX11_wouldMove_2 rfl (lv_at hl 1 rfl) ?_
  refine cVie (As := [.int x]) S G 276 (c_X11_isOne l (D := D) (ct := ct) (ek := ek) (ad := ad) (N0 := N0) (X := X) (F := F) σ x) ok_yX11_isOne ml_RX11_71 (by decide) oM rfl hP hS hl.1 rfl (by decide) rfl rfl (Nat.le_of_ble_eq_true rfl) ⟨Nat.zero_le _, Nat.zero_le _⟩ dX11_wouldMove_3 (fun H locs hP hS => ?_)
  refine lv_if_eq (tgt := 13) hx hb dX11_wouldMove_6 (by decide) (fun c_6 => ?_) (fun c_6 => ?_)
  · refine lv_iconst (v := 1) hx hb dX11_wouldMove_13 (by decide) ?_
    refine pf S G hP hS 276 20 (x := 1) tyX11 tyX11_ok nmX11 (by decide) oM rfl inX11 (by decide) fl_RX11_42 rfl rfl rfl rfl (Nat.le_of_ble_eq_true rfl) oM dX11_wouldMove_14 (fun H locs hP hS => ?_)
    refine lv_aload_n hx hb dX11_wouldMove_17 rfl (lv_at hl 0 rfl) ?_
    refine gf S G hP 276 20 (by decide) oM rfl inX11 (by decide) fl_RX11_42 rfl rfl dX11_wouldMove_18 ?_
    refine lv_tope (y := 1) (by rw [sg_ss]) ?_
    refine lv_if_ne (tgt := 32) hx hb dX11_wouldMove_21 (by decide) (fun c_21 => ?_) (fun c_21 => absurd c_21 (by decide))
    refine lv_iconst (v := 0) hx hb dX11_wouldMove_32 (by decide) ?_
    exact eI S hr hlocks hP hS dX11_wouldMove_33 (by first | (refine ⟨?_, ?_⟩ <;> simp only [qV, qM, thM, c_6, c_21, ↓reduceIte, if_true, if_false, eq_self]; done) | (refine ⟨?_, rfl⟩; simp only [qV, qM, thM, c_6, c_21, ↓reduceIte, if_true, if_false, eq_self]; done) | exact ⟨rfl, rfl⟩ | (refine ⟨?_, rfl⟩; simp [qV, qM, thM, c_6, c_21]; done) | (simp [qV, qM, thM, c_6, c_21]; done) | grind [qV, qM, thM])
  · refine lv_iconst (v := 0) hx hb dX11_wouldMove_9 (by decide) ?_
    refine lv_goto (tgt := 14) hx hb dX11_wouldMove_10 (by decide) ?_
    refine pf S G hP hS 276 20 (x := 0) tyX11 tyX11_ok nmX11 (by decide) oM rfl inX11 (by decide) fl_RX11_42 rfl rfl rfl rfl (Nat.le_of_ble_eq_true rfl) oM dX11_wouldMove_14 (fun H locs hP hS => ?_)
    refine lv_aload_n hx hb dX11_wouldMove_17 rfl (lv_at hl 0 rfl) ?_
    refine gf S G hP 276 20 (by decide) oM rfl inX11 (by decide) fl_RX11_42 rfl rfl dX11_wouldMove_18 ?_
    refine lv_tope (y := 0) (by rw [sg_ss]) ?_
    refine lv_if_ne (tgt := 32) hx hb dX11_wouldMove_21 (by decide) (fun c_21 => absurd rfl c_21) (fun c_21 => ?_)
    obtain ⟨h1, h1l⟩ := rngN (show ¬ rngB x 0 (σ 277 0 - 1) = 0 from c_6) hn (by omega)
    refine lv_aload_n hx hb dX11_wouldMove_24 rfl (lv_at hl 0 rfl) ?_
    refine lv_iload_n hx hb dX11_wouldMove_25 rfl (lv_at hl 1 rfl) ?_
    refine lv_tope (y := nI (tN (x))) h1 ?_
    refine cVie (As := [.int (nI (tN (x)))]) S G 276 (c_X11_moves l (D := D) (ct := ct) (ek := ek) (ad := ad) (N0 := N0) (X := X) (F := F) (sg σ 276 20 0) (tN (x)) (by omega) n (by first | assumption | omega | (simp [sg_at]; assumption) | (simp [sg_at]; done)) (by omega) (by rw [th_r]; exact hR.hd (by omega))) ok_yX11_moves ml_RX11_132 (by decide) oM rfl hP hS hl.1 rfl (by decide) rfl rfl (Nat.le_of_ble_eq_true rfl) ⟨Nat.zero_le _, Nat.zero_le _⟩ dX11_wouldMove_26 (fun H locs hP hS => ?_)
    refine lv_tope (y := mvR (σ 277) n (tN x)) (by rw [th_r]) ?_
    refine lv_goto (tgt := 33) hx hb dX11_wouldMove_29 (by decide) ?_
    exact eI S hr hlocks hP hS dX11_wouldMove_33 (by first | (refine ⟨?_, ?_⟩ <;> simp only [qV, qM, thM, c_6, c_21, ↓reduceIte, if_true, if_false, eq_self]; done) | (refine ⟨?_, rfl⟩; simp only [qV, qM, thM, c_6, c_21, ↓reduceIte, if_true, if_false, eq_self]; done) | exact ⟨rfl, rfl⟩ | (refine ⟨?_, rfl⟩; simp [qV, qM, thM, c_6, c_21]; done) | (simp [qV, qM, thM, c_6, c_21]; done) | grind [qV, qM, thM])

theorem ok_yX11_pull : COK RX11 yX11_pull cX11_pull 3 (some .int) 2 := ⟨im_yX11_pull, se_RX11_yX11_pull, in_RX11, co_yX11_pull, ⟨rfl, by decide +kernel, by decide +kernel, by decide +kernel⟩, by decide⟩
set_option maxHeartbeats 1000000 in
set_option maxRecDepth 100000 in
theorem c_X11_pull (l : Launch) {D : va_G} {ct : Nat → ClassId} {ek ad : Nat → Nat} {N0 : Nat} {X : va_W} {F : State → Prop} (σ : Mem) (i : Nat) (hi : i < 6) (j : Nat) (hj : j < 6) : MI l yX11_pull cX11_pull 3 (some .int) 1 D ct ek ad N0 X F [.ref (ad 276), .int (nI i), .int (nI j)] σ (fun r τ => r = plR (σ 277) i j ∧ τ = σ) := by
  refine ms0 (own := RX11) (by decide) rfl (Nat.le_of_ble_eq_true rfl) (fun p e s m args below meth c S hr hlocks hnm G hP hS ls hl => ?_)
  have hx := S.1
  have hb := S.2.1
  replace hl : lv_has ls 3 [(0, .ref (ad 276)), (1, .int (nI i)), (2, .int (nI j))] := hl
  refine lv_aload_n hx hb dX11_pull_0 rfl (lv_at hl 0 rfl) ?_
  refine lv_iload_n hx hb dX11_pull_1 rfl (lv_at hl 1 rfl) ?_
  refine lv_iload_n hx hb dX11_pull_2 rfl (lv_at hl 2 rfl) ?_
  refine cVie (As := [.int (nI i), .int (nI j)]) S G 276 (c_X11_weighs l (D := D) (ct := ct) (ek := ek) (ad := ad) (N0 := N0) (X := X) (F := F) σ i (by omega) j (by omega)) ok_yX11_weighs ml_RX11_91 (by decide) oM rfl hP hS hl.1 rfl (by decide) rfl rfl (Nat.le_of_ble_eq_true rfl) ⟨Nat.zero_le _, Nat.zero_le _⟩ dX11_pull_3 (fun H locs hP hS => ?_)
  refine lv_aload_n hx hb dX11_pull_6 rfl (lv_at hl 0 rfl) ?_
  refine lv_iload_n hx hb dX11_pull_7 rfl (lv_at hl 1 rfl) ?_
  refine lv_iconst (v := 0) hx hb dX11_pull_8 (by decide) ?_
  refine cVie (As := [.int (nI i), .int (nI 0)]) S G 276 (c_X11_of l (D := D) (ct := ct) (ek := ek) (ad := ad) (N0 := N0) (X := X) (F := F) σ i (by omega) 0 (by omega)) ok_yX11_of ml_RX11_83 (by decide) oM rfl hP hS hl.1 rfl (by decide) rfl rfl (Nat.le_of_ble_eq_true rfl) ⟨Nat.zero_le _, Nat.zero_le _⟩ dX11_pull_9 (fun H locs hP hS => ?_)
  refine lv_aload_n hx hb dX11_pull_12 rfl (lv_at hl 0 rfl) ?_
  refine lv_iload_n hx hb dX11_pull_13 rfl (lv_at hl 2 rfl) ?_
  refine lv_iconst (v := 0) hx hb dX11_pull_14 (by decide) ?_
  refine cVie (As := [.int (nI j), .int (nI 0)]) S G 276 (c_X11_of l (D := D) (ct := ct) (ek := ek) (ad := ad) (N0 := N0) (X := X) (F := F) σ j (by omega) 0 (by omega)) ok_yX11_of ml_RX11_83 (by decide) oM rfl hP hS hl.1 rfl (by decide) rfl rfl (Nat.le_of_ble_eq_true rfl) ⟨Nat.zero_le _, Nat.zero_le _⟩ dX11_pull_15 (fun H locs hP hS => ?_)
  refine lv_isub hx hb dX11_pull_18 ?_
  refine rabs S rfl (by decide) hl.1 ml_RX11_86 (Nat.le_of_ble_eq_true rfl) ⟨Nat.zero_le _, Nat.zero_le _⟩ dX11_pull_19 ?_
  refine lv_imul hx hb dX11_pull_22 ?_
  exact eI S hr hlocks hP hS dX11_pull_23 (by first | exact ⟨rfl, rfl⟩ | (refine ⟨?_, rfl⟩; simp [plR]; done) | (simp [plR]; done) | (simp only [plR, ↓reduceIte, if_true, if_false, and_self, true_and]; done) | grind [plR])

theorem ok_yX11_puller : COK RX11 yX11_puller cX11_puller 4 (some .int) 1 := ⟨im_yX11_puller, se_RX11_yX11_puller, in_RX11, co_yX11_puller, ⟨rfl, by decide +kernel, by decide +kernel, by decide +kernel⟩, by decide⟩
set_option maxHeartbeats 1000000 in
set_option maxRecDepth 100000 in
theorem c_X11_puller (l : Launch) {D : va_G} {ct : Nat → ClassId} {ek ad : Nat → Nat} {N0 : Nat} {X : va_W} {F : State → Prop} (σ : Mem) (x : Int32) (n : Nat) (hn : σ 277 0 = nI n) (hn6 : n ≤ 6) : MI l yX11_puller cX11_puller 4 (some .int) 2 D ct ek ad N0 X F [.ref (ad 276), .int x] σ (fun r τ => r = pulV σ n x ∧ τ = thM σ (pulT σ n x)) := by
  refine ms0 (own := RX11) (by decide) rfl (Nat.le_of_ble_eq_true rfl) (fun p e s m args below meth c S hr hlocks hnm G hP hS ls hl => ?_)
  have hx := S.1
  have hb := S.2.1
  replace hl : lv_has ls 4 [(0, .ref (ad 276)), (1, .int x)] := hl
  refine lv_aload_n hx hb dX11_puller_0 rfl (lv_at hl 0 rfl) ?_
  refine lv_iconst (v := 0) hx hb dX11_puller_1 (by decide) ?_
  refine pf S G hP hS 276 20 (x := 0) tyX11 tyX11_ok nmX11 (by decide) oM rfl inX11 (by decide) fl_RX11_42 rfl rfl rfl rfl (Nat.le_of_ble_eq_true rfl) oM dX11_puller_2 (fun H locs hP hS => ?_)
  refine lv_aload_n hx hb dX11_puller_5 rfl (lv_at hl 0 rfl) ?_
  refine lv_iload_n hx hb dX11_puller_6 rfl (lv_at hl 1 rfl) ?_
  refine cVie (As := [.int x]) S G 276 (c_X11_isOne l (D := D) (ct := ct) (ek := ek) (ad := ad) (N0 := N0) (X := X) (F := F) (sg σ 276 20 0) x) ok_yX11_isOne ml_RX11_71 (by decide) oM rfl hP hS hl.1 rfl (by decide) rfl rfl (Nat.le_of_ble_eq_true rfl) ⟨Nat.zero_le _, Nat.zero_le _⟩ dX11_puller_7 (fun H locs hP hS => ?_)
  refine lv_tope (y := one1 σ x) (by simp [one1, sg_at]) ?_
  refine lv_if_ne (tgt := 19) hx hb dX11_puller_10 (by decide) (fun c_10 => ?_) (fun c_10 => ?_)
  · obtain ⟨h1, h1l⟩ := rngN (show ¬ rngB x 0 (σ 277 0 - 1) = 0 from c_10) hn (by omega)
    refine lv_iload_n hx hb dX11_puller_19 rfl (lv_at hl 1 rfl) ?_
    refine lv_tope (y := nI (tN (x))) h1 ?_
    refine lv_istore_n (lv' := [(2, .int (nI (tN (x)))), (0, .ref (ad 276)), (1, .int x)]) hx hb dX11_puller_20 rfl hl (by decide) rfl (fun ls hl => ?_)
    refine lv_iconst (v := 0) hx hb dX11_puller_21 (by decide) ?_
    refine lv_istore_n (lv' := [(3, .int 0), (2, .int (nI (tN (x)))), (0, .ref (ad 276)), (1, .int x)]) hx hb dX11_puller_22 rfl hl (by decide) rfl (fun ls hl => ?_)
    have key_23 : ∀ (d k : Nat), k + d = n → ∀ (H : Heap) (locs : List Loc) (ls : Array Slot), wP D ct ek ad X (sg σ 276 20 0) H → va_S (fr N0) s.heap H locs → lv_has ls 4 [(3, .int (nI k)), (2, .int (nI (bsR (σ 277) (tN x) k))), (0, .ref (ad 276)), (1, .int x)] → W p l e (rmd 2 0 0) s m args below meth c H locs 0 0 (MQ below (wQi D ct ek ad N0 X (fun r τ => r = pulV σ n x ∧ τ = thM σ (pulT σ n x))) args s 0 0 (fr N0)) (F0 m 23 ls []) := by
      intro d
      induction d with
      | zero =>
        intro k9 hk
        obtain rfl : n = k9 := by omega
        intro  H locs ls hP hS hl
        refine lv_iload_n hx hb dX11_puller_23 rfl (lv_at hl 0 rfl) ?_
        refine lv_aload_n hx hb dX11_puller_24 rfl (lv_at hl 2 rfl) ?_
        refine gf S G hP 276 0 (by decide) oM rfl inX11 (by decide) fl_RX11_9 rfl rfl dX11_puller_25 ?_
        refine lv_iconst (v := 0) hx hb dX11_puller_28 (by decide) ?_
        refine ald S G hP 277 0 (by decide) (aM277 _) (by decide) (by omega) (by decide) dX11_puller_29 ?_
        refine lv_icmp_ge (tgt := 56) hx hb dX11_puller_30 (by decide) (fun c_30 => ?_) (fun c_30 => absurd (by rw [(show (sg σ 276 20 0) 277 0 = nI n from by rw [th_r]; exact hn)]; exact nI_le (by omega) (by omega)) c_30)
        refine lv_iload_n hx hb dX11_puller_56 rfl (lv_at hl 1 rfl) ?_
        refine lv_iload_n hx hb dX11_puller_57 rfl (lv_at hl 3 rfl) ?_
        refine lv_tope (y := nI (tN (x))) h1 ?_
        refine lv_icmp_ne (tgt := 69) hx hb dX11_puller_58 (by decide) (fun c_58 => ?_) (fun c_58 => ?_)
        · refine lv_iload_n hx hb dX11_puller_69 rfl (lv_at hl 1 rfl) ?_
          exact eI S hr hlocks hP hS dX11_puller_70 (by first | (refine ⟨?_, ?_⟩ <;> simp only [pulV, pulT, thM, sg_sg, c_10, c_30, c_58, ↓reduceIte, if_true, if_false, eq_self]; done) | (refine ⟨?_, rfl⟩; simp only [pulV, pulT, thM, sg_sg, c_10, c_30, c_58, ↓reduceIte, if_true, if_false, eq_self]; done) | exact ⟨rfl, rfl⟩ | (refine ⟨?_, rfl⟩; simp [pulV, pulT, thM, sg_sg, c_10, c_30, c_58]; done) | (simp [pulV, pulT, thM, sg_sg, c_10, c_30, c_58]; done) | grind [pulV, pulT, thM, sg_sg])
        · refine lv_aload_n hx hb dX11_puller_61 rfl (lv_at hl 2 rfl) ?_
          refine lv_iconst (v := 2) hx hb dX11_puller_62 (by decide) ?_
          refine cVie (As := [.int 2]) S G 276 (c_X11_raises l (D := D) (ct := ct) (ek := ek) (ad := ad) (N0 := N0) (X := X) (F := F) (sg σ 276 20 0) 2) ok_yX11_raises ml_RX11_64 (by decide) oM rfl hP hS hl.1 rfl (by decide) rfl rfl (Nat.le_of_ble_eq_true rfl) ⟨Nat.zero_le _, Nat.zero_le _⟩ dX11_puller_63 (fun H locs hP hS => ?_)
          refine lv_goto (tgt := 70) hx hb dX11_puller_66 (by decide) ?_
          exact eI S hr hlocks hP hS dX11_puller_70 (by first | (refine ⟨?_, ?_⟩ <;> simp only [pulV, pulT, thM, sg_sg, c_10, c_30, c_58, ↓reduceIte, if_true, if_false, eq_self]; done) | (refine ⟨?_, rfl⟩; simp only [pulV, pulT, thM, sg_sg, c_10, c_30, c_58, ↓reduceIte, if_true, if_false, eq_self]; done) | exact ⟨rfl, rfl⟩ | (refine ⟨?_, rfl⟩; simp [pulV, pulT, thM, sg_sg, c_10, c_30, c_58]; done) | (simp [pulV, pulT, thM, sg_sg, c_10, c_30, c_58]; done) | grind [pulV, pulT, thM, sg_sg])
      | succ d ih =>
        intro k hk  H locs ls hP hS hl
        have hkn : k < n := by omega
        have hbs := bsR_lt (h := σ 277) (p := tN x) (by omega) k (by omega)
        refine lv_iload_n hx hb dX11_puller_23 rfl (lv_at hl 0 rfl) ?_
        refine lv_aload_n hx hb dX11_puller_24 rfl (lv_at hl 2 rfl) ?_
        refine gf S G hP 276 0 (by decide) oM rfl inX11 (by decide) fl_RX11_9 rfl rfl dX11_puller_25 ?_
        refine lv_iconst (v := 0) hx hb dX11_puller_28 (by decide) ?_
        refine ald S G hP 277 0 (by decide) (aM277 _) (by decide) (by omega) (by decide) dX11_puller_29 ?_
        refine lv_icmp_ge (tgt := 56) hx hb dX11_puller_30 (by decide) (fun c_30 => absurd c_30 (by rw [(show (sg σ 276 20 0) 277 0 = nI n from by rw [th_r]; exact hn)]; exact nI_ge (by omega) (by omega))) (fun c_30 => ?_)
        refine lv_aload_n hx hb dX11_puller_33 rfl (lv_at hl 2 rfl) ?_
        refine lv_iload_n hx hb dX11_puller_34 rfl (lv_at hl 3 rfl) ?_
        refine lv_tope (y := nI (tN (x))) h1 ?_
        refine lv_iload_n hx hb dX11_puller_35 rfl (lv_at hl 0 rfl) ?_
        refine cVie (As := [.int (nI (tN (x))), .int (nI k)]) S G 276 (c_X11_pull l (D := D) (ct := ct) (ek := ek) (ad := ad) (N0 := N0) (X := X) (F := F) (sg σ 276 20 0) (tN (x)) (by omega) k (by omega)) ok_yX11_pull ml_RX11_179 (by decide) oM rfl hP hS hl.1 rfl (by decide) rfl rfl (Nat.le_of_ble_eq_true rfl) ⟨Nat.zero_le _, Nat.zero_le _⟩ dX11_puller_36 (fun H locs hP hS => ?_)
        refine lv_tope (y := plR (σ 277) (tN x) k) (by rw [th_r]) ?_
        refine lv_aload_n hx hb dX11_puller_39 rfl (lv_at hl 2 rfl) ?_
        refine lv_iload_n hx hb dX11_puller_40 rfl (lv_at hl 3 rfl) ?_
        refine lv_tope (y := nI (tN (x))) h1 ?_
        refine lv_iload_n hx hb dX11_puller_41 rfl (lv_at hl 1 rfl) ?_
        refine cVie (As := [.int (nI (tN (x))), .int (nI (bsR (σ 277) (tN x) k))]) S G 276 (c_X11_pull l (D := D) (ct := ct) (ek := ek) (ad := ad) (N0 := N0) (X := X) (F := F) (sg σ 276 20 0) (tN (x)) (by omega) (bsR (σ 277) (tN x) k) (by omega)) ok_yX11_pull ml_RX11_179 (by decide) oM rfl hP hS hl.1 rfl (by decide) rfl rfl (Nat.le_of_ble_eq_true rfl) ⟨Nat.zero_le _, Nat.zero_le _⟩ dX11_puller_42 (fun H locs hP hS => ?_)
        refine lv_tope (y := plR (σ 277) (tN x) (bsR (σ 277) (tN x) k)) (by rw [th_r]) ?_
        refine lv_icmp_le (tgt := 50) hx hb dX11_puller_45 (by decide) (fun c_45 => ?_) (fun c_45 => ?_)
        · refine lv_iinc (v := nI (k + 1)) (lv' := [(3, .int (nI (k + 1))), (2, .int (nI (bsR (σ 277) (tN x) k))), (0, .ref (ad 276)), (1, .int x)]) hx hb dX11_puller_50 hl (k := 0) rfl (nI_inc _) (by decide) rfl (fun ls hl => ?_)
          refine lv_goto (tgt := 23) hx hb dX11_puller_53 (by decide) ?_
          exact ih (k + 1) (by omega)  _ _ _ hP hS (by first | (refine lv_v (lv_sub (l' := [(3, .int (nI (k + 1))), (2, .int (nI (bsR (σ 277) (tN x) k))), (0, .ref (ad 276)), (1, .int x)]) hl [0, 1, 2, 3] rfl) ?_; simp [fo, pulV, pulT, thM, sg_sg, bsR_s, c_10, c_30, c_45]; done) | exact lv_sub hl [0, 1, 2, 3] rfl)
        · refine lv_iload_n hx hb dX11_puller_48 rfl (lv_at hl 0 rfl) ?_
          refine lv_istore_n (lv' := [(2, .int (nI k)), (3, .int (nI k)), (0, .ref (ad 276)), (1, .int x)]) hx hb dX11_puller_49 rfl hl (by decide) rfl (fun ls hl => ?_)
          refine lv_iinc (v := nI (k + 1)) (lv' := [(3, .int (nI (k + 1))), (2, .int (nI k)), (0, .ref (ad 276)), (1, .int x)]) hx hb dX11_puller_50 hl (k := 1) rfl (nI_inc _) (by decide) rfl (fun ls hl => ?_)
          refine lv_goto (tgt := 23) hx hb dX11_puller_53 (by decide) ?_
          exact ih (k + 1) (by omega)  _ _ _ hP hS (by first | (refine lv_v (lv_sub (l' := [(3, .int (nI (k + 1))), (2, .int (nI k)), (0, .ref (ad 276)), (1, .int x)]) hl [0, 1, 2, 3] rfl) ?_; simp [fo, pulV, pulT, thM, sg_sg, bsR_s, c_10, c_30, c_45]; done) | exact lv_sub hl [0, 1, 2, 3] rfl)
    exact key_23 n 0 (by omega)  _ _ _ hP hS (lv_v (lv_sub (l' := [(3, .int 0), (2, .int (nI (tN (x)))), (0, .ref (ad 276)), (1, .int x)]) hl [0, 1, 2, 3] rfl) rfl)
  · refine lv_aload_n hx hb dX11_puller_13 rfl (lv_at hl 0 rfl) ?_
    refine lv_iconst (v := 1) hx hb dX11_puller_14 (by decide) ?_
    refine cVie (As := [.int 1]) S G 276 (c_X11_raises l (D := D) (ct := ct) (ek := ek) (ad := ad) (N0 := N0) (X := X) (F := F) (sg σ 276 20 0) 1) ok_yX11_raises ml_RX11_64 (by decide) oM rfl hP hS hl.1 rfl (by decide) rfl rfl (Nat.le_of_ble_eq_true rfl) ⟨Nat.zero_le _, Nat.zero_le _⟩ dX11_puller_15 (fun H locs hP hS => ?_)
    exact eI S hr hlocks hP hS dX11_puller_18 (by first | (refine ⟨?_, ?_⟩ <;> simp only [pulV, pulT, thM, sg_sg, c_10, ↓reduceIte, if_true, if_false, eq_self]; done) | (refine ⟨?_, rfl⟩; simp only [pulV, pulT, thM, sg_sg, c_10, ↓reduceIte, if_true, if_false, eq_self]; done) | exact ⟨rfl, rfl⟩ | (refine ⟨?_, rfl⟩; simp [pulV, pulT, thM, sg_sg, c_10]; done) | (simp [pulV, pulT, thM, sg_sg, c_10]; done) | grind [pulV, pulT, thM, sg_sg])

theorem ok_yX11_force : COK RX11 yX11_force cX11_force 3 (some .int) 2 := ⟨im_yX11_force, se_RX11_yX11_force, in_RX11, co_yX11_force, ⟨rfl, by decide +kernel, by decide +kernel, by decide +kernel⟩, by decide⟩
set_option maxHeartbeats 1000000 in
set_option maxRecDepth 100000 in
theorem c_X11_force (l : Launch) {D : va_G} {ct : Nat → ClassId} {ek ad : Nat → Nat} {N0 : Nat} {X : va_W} {F : State → Prop} (σ : Mem) (x : Int32) (y : Int32) (n : Nat) (hn : σ 277 0 = nI n) (hn6 : n ≤ 6) : MI l yX11_force cX11_force 3 (some .int) 2 D ct ek ad N0 X F [.ref (ad 276), .int x, .int y] σ (fun r τ => r = fceV σ x y ∧ τ = thM σ (fceT σ x y)) := by
  refine ms0 (own := RX11) (by decide) rfl (Nat.le_of_ble_eq_true rfl) (fun p e s m args below meth c S hr hlocks hnm G hP hS ls hl => ?_)
  have hx := S.1
  have hb := S.2.1
  replace hl : lv_has ls 3 [(0, .ref (ad 276)), (1, .int x), (2, .int y)] := hl
  refine lv_aload_n hx hb dX11_force_0 rfl (lv_at hl 0 rfl) ?_
  refine lv_iconst (v := 0) hx hb dX11_force_1 (by decide) ?_
  refine pf S G hP hS 276 20 (x := 0) tyX11 tyX11_ok nmX11 (by decide) oM rfl inX11 (by decide) fl_RX11_42 rfl rfl rfl rfl (Nat.le_of_ble_eq_true rfl) oM dX11_force_2 (fun H locs hP hS => ?_)
  refine lv_aload_n hx hb dX11_force_5 rfl (lv_at hl 0 rfl) ?_
  refine lv_iload_n hx hb dX11_force_6 rfl (lv_at hl 1 rfl) ?_
  refine cVie (As := [.int x]) S G 276 (c_X11_isOne l (D := D) (ct := ct) (ek := ek) (ad := ad) (N0 := N0) (X := X) (F := F) (sg σ 276 20 0) x) ok_yX11_isOne ml_RX11_71 (by decide) oM rfl hP hS hl.1 rfl (by decide) rfl rfl (Nat.le_of_ble_eq_true rfl) ⟨Nat.zero_le _, Nat.zero_le _⟩ dX11_force_7 (fun H locs hP hS => ?_)
  refine lv_tope (y := one1 σ x) (by simp [one1, sg_at]) ?_
  refine lv_if_ne (tgt := 19) hx hb dX11_force_10 (by decide) (fun c_10 => ?_) (fun c_10 => ?_)
  · refine lv_iload_n hx hb dX11_force_19 rfl (lv_at hl 2 rfl) ?_
    refine lv_iconst (v := 1) hx hb dX11_force_20 (by decide) ?_
    refine lv_bipush (v := 9) hx hb dX11_force_21 (by decide) ?_
    refine cSie (As := [.int y, .int 1, .int 9]) S G (c_X11_in l (D := D) (ct := ct) (ek := ek) (ad := ad) (N0 := N0) (X := X) (F := F) (sg σ 276 20 0) y 1 9) ok_yX11_in ml_RX11_67 hP hS hl.1 rfl (by decide) rfl rfl (Nat.le_of_ble_eq_true rfl) ⟨Nat.zero_le _, Nat.zero_le _⟩ dX11_force_23 (fun H locs hP hS => ?_)
    refine lv_if_eq (tgt := 38) hx hb dX11_force_26 (by decide) (fun c_26 => ?_) (fun c_26 => ?_)
    · refine lv_aload_n hx hb dX11_force_38 rfl (lv_at hl 0 rfl) ?_
      refine lv_iconst (v := 2) hx hb dX11_force_39 (by decide) ?_
      refine cVie (As := [.int 2]) S G 276 (c_X11_raises l (D := D) (ct := ct) (ek := ek) (ad := ad) (N0 := N0) (X := X) (F := F) (sg σ 276 20 0) 2) ok_yX11_raises ml_RX11_64 (by decide) oM rfl hP hS hl.1 rfl (by decide) rfl rfl (Nat.le_of_ble_eq_true rfl) ⟨Nat.zero_le _, Nat.zero_le _⟩ dX11_force_40 (fun H locs hP hS => ?_)
      exact eI S hr hlocks hP hS dX11_force_43 (by first | (refine ⟨?_, ?_⟩ <;> simp only [fceV, fceT, thM, sg_sg, c_10, c_26, ↓reduceIte, if_true, if_false, eq_self]; done) | (refine ⟨?_, rfl⟩; simp only [fceV, fceT, thM, sg_sg, c_10, c_26, ↓reduceIte, if_true, if_false, eq_self]; done) | exact ⟨rfl, rfl⟩ | (refine ⟨?_, rfl⟩; simp [fceV, fceT, thM, sg_sg, c_10, c_26]; done) | (simp [fceV, fceT, thM, sg_sg, c_10, c_26]; done) | grind [fceV, fceT, thM, sg_sg])
    · obtain ⟨h1, h1l⟩ := rngN (show ¬ rngB x 0 (σ 277 0 - 1) = 0 from c_10) hn (by omega)
      refine lv_aload_n hx hb dX11_force_29 rfl (lv_at hl 0 rfl) ?_
      refine lv_iload_n hx hb dX11_force_30 rfl (lv_at hl 1 rfl) ?_
      refine lv_tope (y := nI (tN (x))) h1 ?_
      refine lv_iload_n hx hb dX11_force_31 rfl (lv_at hl 2 rfl) ?_
      refine cVie (As := [.int (nI (tN (x))), .int y]) S G 276 (c_X11_forceOf l (D := D) (ct := ct) (ek := ek) (ad := ad) (N0 := N0) (X := X) (F := F) (sg σ 276 20 0) (tN (x)) (by omega) y) ok_yX11_forceOf ml_RX11_150 (by decide) oM rfl hP hS hl.1 rfl (by decide) rfl rfl (Nat.le_of_ble_eq_true rfl) ⟨Nat.zero_le _, Nat.zero_le _⟩ dX11_force_32 (fun H locs hP hS => ?_)
      refine lv_tope (y := frR (σ 277) (tN x) y) (by rw [th_r]) ?_
      refine lv_goto (tgt := 43) hx hb dX11_force_35 (by decide) ?_
      exact eI S hr hlocks hP hS dX11_force_43 (by first | (refine ⟨?_, ?_⟩ <;> simp only [fceV, fceT, thM, sg_sg, c_10, c_26, ↓reduceIte, if_true, if_false, eq_self]; done) | (refine ⟨?_, rfl⟩; simp only [fceV, fceT, thM, sg_sg, c_10, c_26, ↓reduceIte, if_true, if_false, eq_self]; done) | exact ⟨rfl, rfl⟩ | (refine ⟨?_, rfl⟩; simp [fceV, fceT, thM, sg_sg, c_10, c_26]; done) | (simp [fceV, fceT, thM, sg_sg, c_10, c_26]; done) | grind [fceV, fceT, thM, sg_sg])
  · refine lv_aload_n hx hb dX11_force_13 rfl (lv_at hl 0 rfl) ?_
    refine lv_iconst (v := 1) hx hb dX11_force_14 (by decide) ?_
    refine cVie (As := [.int 1]) S G 276 (c_X11_raises l (D := D) (ct := ct) (ek := ek) (ad := ad) (N0 := N0) (X := X) (F := F) (sg σ 276 20 0) 1) ok_yX11_raises ml_RX11_64 (by decide) oM rfl hP hS hl.1 rfl (by decide) rfl rfl (Nat.le_of_ble_eq_true rfl) ⟨Nat.zero_le _, Nat.zero_le _⟩ dX11_force_15 (fun H locs hP hS => ?_)
    exact eI S hr hlocks hP hS dX11_force_18 (by first | (refine ⟨?_, ?_⟩ <;> simp only [fceV, fceT, thM, sg_sg, c_10, ↓reduceIte, if_true, if_false, eq_self]; done) | (refine ⟨?_, rfl⟩; simp only [fceV, fceT, thM, sg_sg, c_10, ↓reduceIte, if_true, if_false, eq_self]; done) | exact ⟨rfl, rfl⟩ | (refine ⟨?_, rfl⟩; simp [fceV, fceT, thM, sg_sg, c_10]; done) | (simp [fceV, fceT, thM, sg_sg, c_10]; done) | grind [fceV, fceT, thM, sg_sg])

theorem ok_yX11_factsFor : COK RX11 yX11_factsFor cX11_factsFor 6 (some .int) 2 := ⟨im_yX11_factsFor, se_RX11_yX11_factsFor, in_RX11, co_yX11_factsFor, ⟨rfl, by decide +kernel, by decide +kernel, by decide +kernel⟩, by decide⟩
set_option maxHeartbeats 1000000 in
set_option maxRecDepth 100000 in
theorem c_X11_factsFor (l : Launch) {D : va_G} {ct : Nat → ClassId} {ek ad : Nat → Nat} {N0 : Nat} {X : va_W} {F : State → Prop} (σ : Mem) (x : Int32) (y : Int32) (n : Nat) (hn : σ 277 0 = nI n) (hn6 : n ≤ 6) (hz : ∀ p, p < 6 → ¬ rngB y 1 9 = 0 → ¬ frR (σ 277) p y = 0 → atR (σ 277) p ≤ nI 40 * frR (σ 277) p y) : MI l yX11_factsFor cX11_factsFor 6 (some .int) 2 D ct ek ad N0 X F [.ref (ad 276), .int x, .int y] σ (fun r τ => r = facV σ x y ∧ τ = thM σ (facT σ x y)) := by
  refine ms0 (own := RX11) (by decide) rfl (Nat.le_of_ble_eq_true rfl) (fun p e s m args below meth c S hr hlocks hnm G hP hS ls hl => ?_)
  have hx := S.1
  have hb := S.2.1
  replace hl : lv_has ls 6 [(0, .ref (ad 276)), (1, .int x), (2, .int y)] := hl
  refine lv_aload_n hx hb dX11_factsFor_0 rfl (lv_at hl 0 rfl) ?_
  refine lv_iconst (v := 0) hx hb dX11_factsFor_1 (by decide) ?_
  refine pf S G hP hS 276 20 (x := 0) tyX11 tyX11_ok nmX11 (by decide) oM rfl inX11 (by decide) fl_RX11_42 rfl rfl rfl rfl (Nat.le_of_ble_eq_true rfl) oM dX11_factsFor_2 (fun H locs hP hS => ?_)
  refine lv_aload_n hx hb dX11_factsFor_5 rfl (lv_at hl 0 rfl) ?_
  refine lv_iload_n hx hb dX11_factsFor_6 rfl (lv_at hl 1 rfl) ?_
  refine cVie (As := [.int x]) S G 276 (c_X11_isOne l (D := D) (ct := ct) (ek := ek) (ad := ad) (N0 := N0) (X := X) (F := F) (sg σ 276 20 0) x) ok_yX11_isOne ml_RX11_71 (by decide) oM rfl hP hS hl.1 rfl (by decide) rfl rfl (Nat.le_of_ble_eq_true rfl) ⟨Nat.zero_le _, Nat.zero_le _⟩ dX11_factsFor_7 (fun H locs hP hS => ?_)
  refine lv_tope (y := one1 σ x) (by simp [one1, sg_at]) ?_
  refine lv_if_ne (tgt := 19) hx hb dX11_factsFor_10 (by decide) (fun c_10 => ?_) (fun c_10 => ?_)
  · refine lv_iload_n hx hb dX11_factsFor_19 rfl (lv_at hl 2 rfl) ?_
    refine lv_iconst (v := 1) hx hb dX11_factsFor_20 (by decide) ?_
    refine lv_bipush (v := 9) hx hb dX11_factsFor_21 (by decide) ?_
    refine cSie (As := [.int y, .int 1, .int 9]) S G (c_X11_in l (D := D) (ct := ct) (ek := ek) (ad := ad) (N0 := N0) (X := X) (F := F) (sg σ 276 20 0) y 1 9) ok_yX11_in ml_RX11_67 hP hS hl.1 rfl (by decide) rfl rfl (Nat.le_of_ble_eq_true rfl) ⟨Nat.zero_le _, Nat.zero_le _⟩ dX11_factsFor_23 (fun H locs hP hS => ?_)
    refine lv_if_ne (tgt := 35) hx hb dX11_factsFor_26 (by decide) (fun c_26 => ?_) (fun c_26 => ?_)
    · obtain ⟨h1, h1l⟩ := rngN (show ¬ rngB x 0 (σ 277 0 - 1) = 0 from c_10) hn (by omega)
      refine lv_aload_n hx hb dX11_factsFor_35 rfl (lv_at hl 0 rfl) ?_
      refine lv_iload_n hx hb dX11_factsFor_36 rfl (lv_at hl 1 rfl) ?_
      refine lv_tope (y := nI (tN (x))) h1 ?_
      refine lv_iconst (v := 0) hx hb dX11_factsFor_37 (by decide) ?_
      refine cVie (As := [.int (nI (tN (x))), .int (nI 0)]) S G 276 (c_X11_of l (D := D) (ct := ct) (ek := ek) (ad := ad) (N0 := N0) (X := X) (F := F) (sg σ 276 20 0) (tN (x)) (by omega) 0 (by omega)) ok_yX11_of ml_RX11_83 (by decide) oM rfl hP hS hl.1 rfl (by decide) rfl rfl (Nat.le_of_ble_eq_true rfl) ⟨Nat.zero_le _, Nat.zero_le _⟩ dX11_factsFor_38 (fun H locs hP hS => ?_)
      refine rabs S rfl (by decide) hl.1 ml_RX11_86 (Nat.le_of_ble_eq_true rfl) ⟨Nat.zero_le _, Nat.zero_le _⟩ dX11_factsFor_41 ?_
      refine lv_tope (y := atR (σ 277) (tN x)) (by rw [th_r]; rfl) ?_
      refine lv_istore_n (lv' := [(3, .int (atR (σ 277) (tN x))), (0, .ref (ad 276)), (1, .int x), (2, .int y)]) hx hb dX11_factsFor_44 rfl hl (by decide) rfl (fun ls hl => ?_)
      refine lv_aload_n hx hb dX11_factsFor_45 rfl (lv_at hl 1 rfl) ?_
      refine lv_iload_n hx hb dX11_factsFor_46 rfl (lv_at hl 2 rfl) ?_
      refine lv_tope (y := nI (tN (x))) h1 ?_
      refine lv_iload_n hx hb dX11_factsFor_47 rfl (lv_at hl 3 rfl) ?_
      refine cVie (As := [.int (nI (tN (x))), .int y]) S G 276 (c_X11_forceOf l (D := D) (ct := ct) (ek := ek) (ad := ad) (N0 := N0) (X := X) (F := F) (sg σ 276 20 0) (tN (x)) (by omega) y) ok_yX11_forceOf ml_RX11_150 (by decide) oM rfl hP hS hl.1 rfl (by decide) rfl rfl (Nat.le_of_ble_eq_true rfl) ⟨Nat.zero_le _, Nat.zero_le _⟩ dX11_factsFor_48 (fun H locs hP hS => ?_)
      refine lv_tope (y := frR (σ 277) (tN x) y) (by rw [th_r]) ?_
      refine lv_istore (lv' := [(4, .int (frR (σ 277) (tN x) y)), (3, .int (atR (σ 277) (tN x))), (0, .ref (ad 276)), (1, .int x), (2, .int y)]) hx hb dX11_factsFor_51 hl (by decide) rfl (fun ls hl => ?_)
      refine lv_iload_n hx hb dX11_factsFor_53 rfl (lv_at hl 1 rfl) ?_
      refine lv_if_le (tgt := 68) hx hb dX11_factsFor_54 (by decide) (fun c_54 => ?_) (fun c_54 => ?_)
      · have hend : atR (σ 277) (tN x) ≤ nI 40 * frR (σ 277) (tN x) y := (Decidable.em (frR (σ 277) (tN x) y = 0)).elim (fun hf0 => by rw [hf0, Int32.mul_zero]; exact c_54) (fun hf0 => hz _ (by omega) c_26 hf0)
        refine lv_iconst (v := 0) hx hb dX11_factsFor_68 (by decide) ?_
        refine lv_istore (lv' := [(5, .int 0), (4, .int (frR (σ 277) (tN x) y)), (3, .int (atR (σ 277) (tN x))), (0, .ref (ad 276)), (1, .int x), (2, .int y)]) hx hb dX11_factsFor_69 hl (by decide) rfl (fun ls hl => ?_)
        have key_71 : ∀ (d k : Nat), k + d = 40 → (fcR (frR (σ 277) (tN x) y) (atR (σ 277) (tN x)) d k = fcR (frR (σ 277) (tN x) y) (atR (σ 277) (tN x)) 40 0) → ∀ (H : Heap) (locs : List Loc) (ls : Array Slot), wP D ct ek ad X (sg σ 276 20 0) H → va_S (fr N0) s.heap H locs → lv_has ls 6 [(5, .int (nI k)), (4, .int (frR (σ 277) (tN x) y)), (3, .int (atR (σ 277) (tN x))), (0, .ref (ad 276)), (1, .int x), (2, .int y)] → W p l e (rmd 2 0 0) s m args below meth c H locs 0 0 (MQ below (wQi D ct ek ad N0 X (fun r τ => r = facV σ x y ∧ τ = thM σ (facT σ x y))) args s 0 0 (fr N0)) (F0 m 71 ls []) := by
          intro d
          induction d with
          | zero =>
            intro k9 hk
            obtain rfl : 40 = k9 := by omega
            intro hfc H locs ls hP hS hl
            refine lv_iload hx hb dX11_factsFor_71 (lv_at hl 0 rfl) ?_
            refine lv_iload hx hb dX11_factsFor_73 (lv_at hl 1 rfl) ?_
            refine lv_imul hx hb dX11_factsFor_75 ?_
            refine lv_iload_n hx hb dX11_factsFor_76 rfl (lv_at hl 2 rfl) ?_
            refine lv_icmp_ge (tgt := 86) hx hb dX11_factsFor_77 (by decide) (fun c_77 => ?_) (fun c_77 => absurd hend c_77)
            refine lv_iload hx hb dX11_factsFor_86 (lv_at hl 0 rfl) ?_
            exact eI S hr hlocks hP hS dX11_factsFor_88 (by have hq : fcR (frR (σ 277) (tN x) y) (atR (σ 277) (tN x)) 40 0 = 40 := hfc.symm; refine ⟨?_, ?_⟩ <;> simp only [facV, facT, thM, sg_sg, hq, c_10, c_26, c_54, c_77, ↓reduceIte, ite_self])
          | succ d ih =>
            intro k hk hfc H locs ls hP hS hl
            have hkn : k < 40 := by omega
            refine lv_iload hx hb dX11_factsFor_71 (lv_at hl 0 rfl) ?_
            refine lv_iload hx hb dX11_factsFor_73 (lv_at hl 1 rfl) ?_
            refine lv_imul hx hb dX11_factsFor_75 ?_
            refine lv_iload_n hx hb dX11_factsFor_76 rfl (lv_at hl 2 rfl) ?_
            refine lv_icmp_ge (tgt := 86) hx hb dX11_factsFor_77 (by decide) (fun c_77 => ?_) (fun c_77 => ?_)
            · refine lv_iload hx hb dX11_factsFor_86 (lv_at hl 0 rfl) ?_
              exact eI S hr hlocks hP hS dX11_factsFor_88 (by have hq : fcR (frR (σ 277) (tN x) y) (atR (σ 277) (tN x)) 40 0 = k := hfc.symm.trans (if_pos c_77); refine ⟨?_, ?_⟩ <;> simp only [facV, facT, thM, sg_sg, hq, c_10, c_26, c_54, c_77, ↓reduceIte, ite_self])
            · refine lv_iinc (v := nI (k + 1)) (lv' := [(5, .int (nI (k + 1))), (4, .int (frR (σ 277) (tN x) y)), (3, .int (atR (σ 277) (tN x))), (0, .ref (ad 276)), (1, .int x), (2, .int y)]) hx hb dX11_factsFor_80 hl (k := 0) rfl (nI_inc _) (by decide) rfl (fun ls hl => ?_)
              refine lv_goto (tgt := 71) hx hb dX11_factsFor_83 (by decide) ?_
              exact ih (k + 1) (by omega) (by rw [← hfc]; exact (if_neg c_77).symm) _ _ _ hP hS (by first | (refine lv_v (lv_sub (l' := [(5, .int (nI (k + 1))), (4, .int (frR (σ 277) (tN x) y)), (3, .int (atR (σ 277) (tN x))), (0, .ref (ad 276)), (1, .int x), (2, .int y)]) hl [0, 1, 2, 3, 4, 5] rfl) ?_; simp [fo, facV, facT, thM, sg_sg, c_10, c_26, c_54, c_77]; done) | exact lv_sub hl [0, 1, 2, 3, 4, 5] rfl)
        exact key_71 40 0 (by omega) rfl _ _ _ hP hS (lv_sub hl [0, 1, 2, 3, 4, 5] rfl)
      · refine lv_iload hx hb dX11_factsFor_57 (lv_at hl 0 rfl) ?_
        refine lv_if_ne (tgt := 68) hx hb dX11_factsFor_59 (by decide) (fun c_59 => ?_) (fun c_59 => ?_)
        · have hend : atR (σ 277) (tN x) ≤ nI 40 * frR (σ 277) (tN x) y := hz _ (by omega) c_26 c_59
          refine lv_iconst (v := 0) hx hb dX11_factsFor_68 (by decide) ?_
          refine lv_istore (lv' := [(5, .int 0), (4, .int (frR (σ 277) (tN x) y)), (3, .int (atR (σ 277) (tN x))), (0, .ref (ad 276)), (1, .int x), (2, .int y)]) hx hb dX11_factsFor_69 hl (by decide) rfl (fun ls hl => ?_)
          have key_71 : ∀ (d k : Nat), k + d = 40 → (fcR (frR (σ 277) (tN x) y) (atR (σ 277) (tN x)) d k = fcR (frR (σ 277) (tN x) y) (atR (σ 277) (tN x)) 40 0) → ∀ (H : Heap) (locs : List Loc) (ls : Array Slot), wP D ct ek ad X (sg σ 276 20 0) H → va_S (fr N0) s.heap H locs → lv_has ls 6 [(5, .int (nI k)), (4, .int (frR (σ 277) (tN x) y)), (3, .int (atR (σ 277) (tN x))), (0, .ref (ad 276)), (1, .int x), (2, .int y)] → W p l e (rmd 2 0 0) s m args below meth c H locs 0 0 (MQ below (wQi D ct ek ad N0 X (fun r τ => r = facV σ x y ∧ τ = thM σ (facT σ x y))) args s 0 0 (fr N0)) (F0 m 71 ls []) := by
            intro d
            induction d with
            | zero =>
              intro k9 hk
              obtain rfl : 40 = k9 := by omega
              intro hfc H locs ls hP hS hl
              refine lv_iload hx hb dX11_factsFor_71 (lv_at hl 0 rfl) ?_
              refine lv_iload hx hb dX11_factsFor_73 (lv_at hl 1 rfl) ?_
              refine lv_imul hx hb dX11_factsFor_75 ?_
              refine lv_iload_n hx hb dX11_factsFor_76 rfl (lv_at hl 2 rfl) ?_
              refine lv_icmp_ge (tgt := 86) hx hb dX11_factsFor_77 (by decide) (fun c_77 => ?_) (fun c_77 => absurd hend c_77)
              refine lv_iload hx hb dX11_factsFor_86 (lv_at hl 0 rfl) ?_
              exact eI S hr hlocks hP hS dX11_factsFor_88 (by have hq : fcR (frR (σ 277) (tN x) y) (atR (σ 277) (tN x)) 40 0 = 40 := hfc.symm; refine ⟨?_, ?_⟩ <;> simp only [facV, facT, thM, sg_sg, hq, c_10, c_26, c_54, c_59, c_77, ↓reduceIte, ite_self])
            | succ d ih =>
              intro k hk hfc H locs ls hP hS hl
              have hkn : k < 40 := by omega
              refine lv_iload hx hb dX11_factsFor_71 (lv_at hl 0 rfl) ?_
              refine lv_iload hx hb dX11_factsFor_73 (lv_at hl 1 rfl) ?_
              refine lv_imul hx hb dX11_factsFor_75 ?_
              refine lv_iload_n hx hb dX11_factsFor_76 rfl (lv_at hl 2 rfl) ?_
              refine lv_icmp_ge (tgt := 86) hx hb dX11_factsFor_77 (by decide) (fun c_77 => ?_) (fun c_77 => ?_)
              · refine lv_iload hx hb dX11_factsFor_86 (lv_at hl 0 rfl) ?_
                exact eI S hr hlocks hP hS dX11_factsFor_88 (by have hq : fcR (frR (σ 277) (tN x) y) (atR (σ 277) (tN x)) 40 0 = k := hfc.symm.trans (if_pos c_77); refine ⟨?_, ?_⟩ <;> simp only [facV, facT, thM, sg_sg, hq, c_10, c_26, c_54, c_59, c_77, ↓reduceIte, ite_self])
              · refine lv_iinc (v := nI (k + 1)) (lv' := [(5, .int (nI (k + 1))), (4, .int (frR (σ 277) (tN x) y)), (3, .int (atR (σ 277) (tN x))), (0, .ref (ad 276)), (1, .int x), (2, .int y)]) hx hb dX11_factsFor_80 hl (k := 0) rfl (nI_inc _) (by decide) rfl (fun ls hl => ?_)
                refine lv_goto (tgt := 71) hx hb dX11_factsFor_83 (by decide) ?_
                exact ih (k + 1) (by omega) (by rw [← hfc]; exact (if_neg c_77).symm) _ _ _ hP hS (by first | (refine lv_v (lv_sub (l' := [(5, .int (nI (k + 1))), (4, .int (frR (σ 277) (tN x) y)), (3, .int (atR (σ 277) (tN x))), (0, .ref (ad 276)), (1, .int x), (2, .int y)]) hl [0, 1, 2, 3, 4, 5] rfl) ?_; simp [fo, facV, facT, thM, sg_sg, c_10, c_26, c_54, c_59, c_77]; done) | exact lv_sub hl [0, 1, 2, 3, 4, 5] rfl)
          exact key_71 40 0 (by omega) rfl _ _ _ hP hS (lv_sub hl [0, 1, 2, 3, 4, 5] rfl)
        · refine lv_aload_n hx hb dX11_factsFor_62 rfl (lv_at hl 2 rfl) ?_
          refine lv_iconst (v := 3) hx hb dX11_factsFor_63 (by decide) ?_
          refine cVie (As := [.int 3]) S G 276 (c_X11_raises l (D := D) (ct := ct) (ek := ek) (ad := ad) (N0 := N0) (X := X) (F := F) (sg σ 276 20 0) 3) ok_yX11_raises ml_RX11_64 (by decide) oM rfl hP hS hl.1 rfl (by decide) rfl rfl (Nat.le_of_ble_eq_true rfl) ⟨Nat.zero_le _, Nat.zero_le _⟩ dX11_factsFor_64 (fun H locs hP hS => ?_)
          exact eI S hr hlocks hP hS dX11_factsFor_67 (by simp [facV, facT, thM, sg_sg, c_10, c_26, c_54, c_59])
    · refine lv_aload_n hx hb dX11_factsFor_29 rfl (lv_at hl 0 rfl) ?_
      refine lv_iconst (v := 2) hx hb dX11_factsFor_30 (by decide) ?_
      refine cVie (As := [.int 2]) S G 276 (c_X11_raises l (D := D) (ct := ct) (ek := ek) (ad := ad) (N0 := N0) (X := X) (F := F) (sg σ 276 20 0) 2) ok_yX11_raises ml_RX11_64 (by decide) oM rfl hP hS hl.1 rfl (by decide) rfl rfl (Nat.le_of_ble_eq_true rfl) ⟨Nat.zero_le _, Nat.zero_le _⟩ dX11_factsFor_31 (fun H locs hP hS => ?_)
      exact eI S hr hlocks hP hS dX11_factsFor_34 (by simp [facV, facT, thM, sg_sg, c_10, c_26])
  · refine lv_aload_n hx hb dX11_factsFor_13 rfl (lv_at hl 0 rfl) ?_
    refine lv_iconst (v := 1) hx hb dX11_factsFor_14 (by decide) ?_
    refine cVie (As := [.int 1]) S G 276 (c_X11_raises l (D := D) (ct := ct) (ek := ek) (ad := ad) (N0 := N0) (X := X) (F := F) (sg σ 276 20 0) 1) ok_yX11_raises ml_RX11_64 (by decide) oM rfl hP hS hl.1 rfl (by decide) rfl rfl (Nat.le_of_ble_eq_true rfl) ⟨Nat.zero_le _, Nat.zero_le _⟩ dX11_factsFor_15 (fun H locs hP hS => ?_)
    exact eI S hr hlocks hP hS dX11_factsFor_18 (by simp [facV, facT, thM, sg_sg, c_10])

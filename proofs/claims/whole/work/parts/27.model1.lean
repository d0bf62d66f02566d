/-! the reference: the walks (laid by wip/whole/spec_model1.py) -/
theorem ok_yX11_thrown : COK RX11 yX11_thrown cX11_thrown 1 (some .int) 0 := ⟨im_yX11_thrown, se_RX11_yX11_thrown, in_RX11, co_yX11_thrown, ⟨rfl, by decide +kernel, by decide +kernel, by decide +kernel⟩, by decide⟩
set_option maxHeartbeats 1000000 in
set_option maxRecDepth 100000 in
theorem c_X11_thrown (l : Launch) {D : va_G} {ct : Nat → ClassId} {ek ad : Nat → Nat} {N0 : Nat} {X : va_W} {F : State → Prop} (σ : Mem) : MI l yX11_thrown cX11_thrown 1 (some .int) 0 D ct ek ad N0 X F [.ref (ad 276)] σ (fun r τ => r = σ 276 20 ∧ τ = σ) := by
  refine ms0 (own := RX11) (by decide) rfl (Nat.le_of_ble_eq_true rfl) (fun p e s m args below meth c S hr hlocks hnm G hP hS ls hl => ?_)
  have hx := S.1
  have hb := S.2.1
  replace hl : lv_has ls 1 [(0, .ref (ad 276))] := hl
  refine lv_aload_n hx hb dX11_thrown_0 rfl (lv_at hl 0 rfl) ?_
  refine gf S G hP 276 20 (by decide) oM rfl inX11 (by decide) fl_RX11_42 rfl rfl dX11_thrown_1 ?_
  exact eI S hr hlocks hP hS dX11_thrown_4 (by first | exact ⟨rfl, rfl⟩ | (refine ⟨?_, rfl⟩; simp []; done) | (simp []; done) | (simp only [↓reduceIte, if_true, if_false, and_self, true_and]; done) | grind [])

theorem ok_yX11_raises : COK RX11 yX11_raises cX11_raises 2 (some .int) 1 := ⟨im_yX11_raises, se_RX11_yX11_raises, in_RX11, co_yX11_raises, ⟨rfl, by decide +kernel, by decide +kernel, by decide +kernel⟩, by decide⟩
set_option maxHeartbeats 1000000 in
set_option maxRecDepth 100000 in
theorem c_X11_raises (l : Launch) {D : va_G} {ct : Nat → ClassId} {ek ad : Nat → Nat} {N0 : Nat} {X : va_W} {F : State → Prop} (σ : Mem) (x : Int32) : MI l yX11_raises cX11_raises 2 (some .int) 0 D ct ek ad N0 X F [.ref (ad 276), .int x] σ (fun r τ => r = 0 ∧ τ = sg σ 276 20 x) := by
  refine ms0 (own := RX11) (by decide) rfl (Nat.le_of_ble_eq_true rfl) (fun p e s m args below meth c S hr hlocks hnm G hP hS ls hl => ?_)
  have hx := S.1
  have hb := S.2.1
  replace hl : lv_has ls 2 [(0, .ref (ad 276)), (1, .int x)] := hl
  refine lv_aload_n hx hb dX11_raises_0 rfl (lv_at hl 0 rfl) ?_
  refine lv_iload_n hx hb dX11_raises_1 rfl (lv_at hl 1 rfl) ?_
  refine pf S G hP hS 276 20 (x := x) tyX11 tyX11_ok nmX11 (by decide) oM rfl inX11 (by decide) fl_RX11_42 rfl rfl rfl rfl (Nat.le_of_ble_eq_true rfl) oM dX11_raises_2 (fun H locs hP hS => ?_)
  refine lv_iconst (v := 0) hx hb dX11_raises_5 (by decide) ?_
  exact eI S hr hlocks hP hS dX11_raises_6 (by first | exact ⟨rfl, rfl⟩ | (refine ⟨?_, rfl⟩; simp []; done) | (simp []; done) | (simp only [↓reduceIte, if_true, if_false, and_self, true_and]; done) | grind [])

theorem ok_yX11_in : COKs RX11 yX11_in cX11_in 3 (some .boolean) 3 := ⟨sm_yX11_in, in_RX11, co_yX11_in, ⟨rfl, by decide +kernel, by decide +kernel, by decide +kernel⟩, by decide⟩
set_option maxHeartbeats 1000000 in
set_option maxRecDepth 100000 in
theorem c_X11_in (l : Launch) {D : va_G} {ct : Nat → ClassId} {ek ad : Nat → Nat} {N0 : Nat} {X : va_W} {F : State → Prop} (σ : Mem) (x : Int32) (lo : Int32) (hi : Int32) : MI l yX11_in cX11_in 3 (some .boolean) 0 D ct ek ad N0 X F [.int x, .int lo, .int hi] σ (fun r τ => r = rngB x lo hi ∧ τ = σ) := by
  refine ms0 (own := RX11) (by decide) rfl (Nat.le_of_ble_eq_true rfl) (fun p e s m args below meth c S hr hlocks hnm G hP hS ls hl => ?_)
  have hx := S.1
  have hb := S.2.1
  replace hl : lv_has ls 3 [(0, .int x), (1, .int lo), (2, .int hi)] := hl
  refine lv_iload_n hx hb dX11_in_0 rfl (lv_at hl 0 rfl) ?_
  refine lv_iload_n hx hb dX11_in_1 rfl (lv_at hl 1 rfl) ?_
  refine lv_icmp_lt (tgt := 14) hx hb dX11_in_2 (by decide) (fun c_2 => ?_) (fun c_2 => ?_)
  · refine lv_iconst (v := 0) hx hb dX11_in_14 (by decide) ?_
    exact eZ S hr hlocks hP hS (by decide) dX11_in_15 (by first | (refine ⟨?_, ?_⟩ <;> simp only [rngB, c_2, ↓reduceIte, if_true, if_false, eq_self]; done) | (refine ⟨?_, rfl⟩; simp only [rngB, c_2, ↓reduceIte, if_true, if_false, eq_self]; done) | exact ⟨rfl, rfl⟩ | (refine ⟨?_, rfl⟩; simp [rngB, c_2]; done) | (simp [rngB, c_2]; done) | grind [rngB])
  · refine lv_iload_n hx hb dX11_in_5 rfl (lv_at hl 0 rfl) ?_
    refine lv_iload_n hx hb dX11_in_6 rfl (lv_at hl 2 rfl) ?_
    refine lv_icmp_gt (tgt := 14) hx hb dX11_in_7 (by decide) (fun c_7 => ?_) (fun c_7 => ?_)
    · refine lv_iconst (v := 0) hx hb dX11_in_14 (by decide) ?_
      exact eZ S hr hlocks hP hS (by decide) dX11_in_15 (by first | (refine ⟨?_, ?_⟩ <;> simp only [rngB, c_2, c_7, ↓reduceIte, if_true, if_false, eq_self]; done) | (refine ⟨?_, rfl⟩; simp only [rngB, c_2, c_7, ↓reduceIte, if_true, if_false, eq_self]; done) | exact ⟨rfl, rfl⟩ | (refine ⟨?_, rfl⟩; simp [rngB, c_2, c_7]; done) | (simp [rngB, c_2, c_7]; done) | grind [rngB])
    · refine lv_iconst (v := 1) hx hb dX11_in_10 (by decide) ?_
      refine lv_goto (tgt := 15) hx hb dX11_in_11 (by decide) ?_
      exact eZ S hr hlocks hP hS (by decide) dX11_in_15 (by first | (refine ⟨?_, ?_⟩ <;> simp only [rngB, c_2, c_7, ↓reduceIte, if_true, if_false, eq_self]; done) | (refine ⟨?_, rfl⟩; simp only [rngB, c_2, c_7, ↓reduceIte, if_true, if_false, eq_self]; done) | exact ⟨rfl, rfl⟩ | (refine ⟨?_, rfl⟩; simp [rngB, c_2, c_7]; done) | (simp [rngB, c_2, c_7]; done) | grind [rngB])

theorem ok_yX11_tries : COK RX11 yX11_tries cX11_tries 2 none 0 := ⟨im_yX11_tries, se_RX11_yX11_tries, in_RX11, co_yX11_tries, ⟨rfl, by decide +kernel, by decide +kernel, by decide +kernel⟩, by decide⟩
set_option maxHeartbeats 1000000 in
set_option maxRecDepth 100000 in
theorem c_X11_tries (l : Launch) {D : va_G} {ct : Nat → ClassId} {ek ad : Nat → Nat} {N0 : Nat} {X : va_W} {F : State → Prop} (σ : Mem) : MV l yX11_tries cX11_tries 2 0 D ct ek ad N0 X F [.ref (ad 276)] σ (fun τ => τ = triM σ) := by
  refine ms0 (own := RX11) (by decide) rfl (Nat.le_of_ble_eq_true rfl) (fun p e s m args below meth c S hr hlocks hnm G hP hS ls hl => ?_)
  have hx := S.1
  have hb := S.2.1
  replace hl : lv_has ls 2 [(0, .ref (ad 276))] := hl
  refine lv_aload_n hx hb dX11_tries_0 rfl (lv_at hl 0 rfl) ?_
  refine lv_iconst (v := 0) hx hb dX11_tries_1 (by decide) ?_
  refine pf S G hP hS 276 20 (x := 0) tyX11 tyX11_ok nmX11 (by decide) oM rfl inX11 (by decide) fl_RX11_42 rfl rfl rfl rfl (Nat.le_of_ble_eq_true rfl) oM dX11_tries_2 (fun H locs hP hS => ?_)
  refine lv_iconst (v := 0) hx hb dX11_tries_5 (by decide) ?_
  refine lv_istore_n (lv' := [(1, .int 0), (0, .ref (ad 276))]) hx hb dX11_tries_6 rfl hl (by decide) rfl (fun ls hl => ?_)
  have key_7 : ∀ (d k : Nat), k + d = 96 → ∀ (H : Heap) (locs : List Loc) (ls : Array Slot), wP D ct ek ad X (sb (sg σ 276 20 0) 278 (fil (σ 277) (σ 278) k)) H → va_S (fr N0) s.heap H locs → lv_has ls 2 [(1, .int (nI k)), (0, .ref (ad 276))] → W p l e (rmd 0 0 0) s m args below meth c H locs 0 0 (MQ below (wQv D ct ek ad N0 X (fun τ => τ = triM σ)) args s 0 0 (fr N0)) (F0 m 7 ls []) := by
    intro d
    induction d with
    | zero =>
      intro k9 hk
      obtain rfl : 96 = k9 := by omega
      intro  H locs ls hP hS hl
      refine lv_iload_n hx hb dX11_tries_7 rfl (lv_at hl 0 rfl) ?_
      refine lv_bipush (v := 96) hx hb dX11_tries_8 (by decide) ?_
      refine lv_icmp_ge (tgt := 31) hx hb dX11_tries_10 (by decide) (fun c_10 => ?_) (fun c_10 => absurd (by decide) c_10)
      exact eV S hr hlocks hP hS dX11_tries_31 (by first | rfl | (simp [c_10]; done) | (simp only [c_10, ↓reduceIte, if_true, if_false]; done) | grind [])
    | succ d ih =>
      intro k hk  H locs ls hP hS hl
      have hkn : k < 96 := by omega
      refine lv_iload_n hx hb dX11_tries_7 rfl (lv_at hl 0 rfl) ?_
      refine lv_bipush (v := 96) hx hb dX11_tries_8 (by decide) ?_
      refine lv_icmp_ge (tgt := 31) hx hb dX11_tries_10 (by decide) (fun c_10 => absurd c_10 (nI_ge (b := 96) (by omega) (by omega))) (fun c_10 => ?_)
      refine lv_aload_n hx hb dX11_tries_13 rfl (lv_at hl 1 rfl) ?_
      refine gf S G hP 276 1 (by decide) oM rfl inX11 (by decide) fl_RX11_13 rfl rfl dX11_tries_14 ?_
      refine lv_iload_n hx hb dX11_tries_17 rfl (lv_at hl 0 rfl) ?_
      refine lv_aload_n hx hb dX11_tries_18 rfl (lv_at hl 1 rfl) ?_
      refine gf S G hP 276 0 (by decide) oM rfl inX11 (by decide) fl_RX11_9 rfl rfl dX11_tries_19 ?_
      refine lv_iload_n hx hb dX11_tries_22 rfl (lv_at hl 0 rfl) ?_
      refine ald S G hP 277 k (by decide) (aM277 _) rfl (by omega) (by decide) dX11_tries_23 ?_
      refine lv_tope (y := σ 277 k) (by grind [sbAp, sg_at, fil]) ?_
      refine ast S G hP hS 278 k (by decide) aM278 rfl (by omega) (by decide) dX11_tries_24 (fun H locs hP hS => ?_)
      refine lv_iinc (v := nI (k + 1)) (lv' := [(1, .int (nI (k + 1))), (0, .ref (ad 276))]) hx hb dX11_tries_25 hl (k := 0) rfl (nI_inc _) (by decide) rfl (fun ls hl => ?_)
      refine lv_goto (tgt := 7) hx hb dX11_tries_28 (by decide) ?_
      exact ih (k + 1) (by omega)  _ _ _ (wP_e hP (by rw [sg_sb, fil_s rfl])) hS (by first | exact lv_sub hl [0, 1] rfl | (refine lv_v (lv_sub (l' := [(1, .int (nI (k + 1))), (0, .ref (ad 276))]) hl [0, 1] rfl) ?_; simp [fo, c_10]; done))
  exact key_7 96 0 (by omega)  _ _ _ (wP_e hP (by rw [fil_0]; funext c j; grind [sbAp, sg_at])) hS (lv_sub hl [0, 1] rfl)

theorem ok_yX11_keeps : COK RX11 yX11_keeps cX11_keeps 3 (some .int) 1 := ⟨im_yX11_keeps, se_RX11_yX11_keeps, in_RX11, co_yX11_keeps, ⟨rfl, by decide +kernel, by decide +kernel, by decide +kernel⟩, by decide⟩
set_option maxHeartbeats 1000000 in
set_option maxRecDepth 100000 in
theorem c_X11_keeps (l : Launch) {D : va_G} {ct : Nat → ClassId} {ek ad : Nat → Nat} {N0 : Nat} {X : va_W} {F : State → Prop} (σ : Mem) (x : Int32) (u : Nat) (hu : σ 276 4 = nI u) (hu8 : u ≤ 8) : MI l yX11_keeps cX11_keeps 3 (some .int) 0 D ct ek ad N0 X F [.ref (ad 276), .int x] σ (fun r τ => r = x ∧ τ = keepM σ u) := by
  refine ms0 (own := RX11) (by decide) rfl (Nat.le_of_ble_eq_true rfl) (fun p e s m args below meth c S hr hlocks hnm G hP hS ls hl => ?_)
  have hx := S.1
  have hb := S.2.1
  replace hl : lv_has ls 3 [(0, .ref (ad 276)), (1, .int x)] := hl
  refine lv_aload_n hx hb dX11_keeps_0 rfl (lv_at hl 0 rfl) ?_
  refine gf S G hP 276 4 (by decide) oM rfl inX11 (by decide) fl_RX11_45 rfl rfl dX11_keeps_1 ?_
  refine lv_bipush (v := 8) hx hb dX11_keeps_4 (by decide) ?_
  have jn_6_1 : ∀ (H : Heap) (locs : List Loc) (ls : Array Slot), wP D ct ek ad X (kp0 σ u) H → va_S (fr N0) s.heap H locs → lv_has ls 3 [(0, .ref (ad 276)), (1, .int x)] → W p l e (rmd 0 0 0) s m args below meth c H locs 0 0 (MQ below (wQi D ct ek ad N0 X (fun r τ => r = x ∧ τ = keepM σ u)) args s 0 0 (fr N0)) (F0 m 49 ls []) := by
    intro H locs ls hP hS hl
    refine lv_iconst (v := 0) hx hb dX11_keeps_49 (by decide) ?_
    refine lv_istore_n (lv' := [(2, .int 0), (0, .ref (ad 276)), (1, .int x)]) hx hb dX11_keeps_50 rfl hl (by decide) rfl (fun ls hl => ?_)
    have key_51 : ∀ (d k : Nat), k + d = 96 → ∀ (H : Heap) (locs : List Loc) (ls : Array Slot), wP D ct ek ad X (sb (kp0 σ u) 280 (putR (kp0 σ u 280) (σ 278) (96 * kpU u) k)) H → va_S (fr N0) s.heap H locs → lv_has ls 3 [(2, .int (nI k)), (0, .ref (ad 276)), (1, .int x)] → W p l e (rmd 0 0 0) s m args below meth c H locs 0 0 (MQ below (wQi D ct ek ad N0 X (fun r τ => r = x ∧ τ = keepM σ u)) args s 0 0 (fr N0)) (F0 m 51 ls []) := by
      intro d
      induction d with
      | zero =>
        intro k9 hk
        obtain rfl : 96 = k9 := by omega
        intro  H locs ls hP hS hl
        refine lv_iload_n hx hb dX11_keeps_51 rfl (lv_at hl 0 rfl) ?_
        refine lv_bipush (v := 96) hx hb dX11_keeps_52 (by decide) ?_
        refine lv_icmp_ge (tgt := 83) hx hb dX11_keeps_54 (by decide) (fun c_54 => ?_) (fun c_54 => absurd (by decide) c_54)
        refine lv_aload_n hx hb dX11_keeps_83 rfl (lv_at hl 1 rfl) ?_
        refine lv_dup hx hb dX11_keeps_84 rfl ?_
        refine gf S G hP 276 4 (by decide) oM rfl inX11 (by decide) fl_RX11_45 rfl rfl dX11_keeps_85 ?_
        refine lv_iconst (v := 1) hx hb dX11_keeps_88 (by decide) ?_
        refine nadd hx hb (kpU u) 1 dX11_keeps_89 (by rw [sb_n (by decide)]; exact kp0_u hu) (by decide) ?_
        refine pf S G hP hS 276 4 (x := nI ((kpU u) + 1)) tyX11 tyX11_ok nmX11 (by decide) oM rfl inX11 (by decide) fl_RX11_45 rfl rfl rfl rfl (Nat.le_of_ble_eq_true rfl) oM dX11_keeps_90 (fun H locs hP hS => ?_)
        refine lv_iload_n hx hb dX11_keeps_93 rfl (lv_at hl 2 rfl) ?_
        exact eI S hr hlocks hP hS dX11_keeps_94 (by first | exact ⟨rfl, rfl⟩ | (refine ⟨?_, rfl⟩; simp [c_54]; done) | (simp [c_54]; done) | (simp only [c_54, ↓reduceIte, if_true, if_false, and_self, true_and]; done) | grind [])
      | succ d ih =>
        intro k hk  H locs ls hP hS hl
        have hkn : k < 96 := by omega
        have hk7 := kpU_le hu8
        refine lv_iload_n hx hb dX11_keeps_51 rfl (lv_at hl 0 rfl) ?_
        refine lv_bipush (v := 96) hx hb dX11_keeps_52 (by decide) ?_
        refine lv_icmp_ge (tgt := 83) hx hb dX11_keeps_54 (by decide) (fun c_54 => absurd c_54 (nI_ge (b := 96) (by omega) (by omega))) (fun c_54 => ?_)
        refine lv_aload_n hx hb dX11_keeps_57 rfl (lv_at hl 1 rfl) ?_
        refine gf S G hP 276 3 (by decide) oM rfl inX11 (by decide) fl_RX11_19 rfl rfl dX11_keeps_58 ?_
        refine lv_bipush (v := 96) hx hb dX11_keeps_61 (by decide) ?_
        refine lv_aload_n hx hb dX11_keeps_63 rfl (lv_at hl 1 rfl) ?_
        refine gf S G hP 276 4 (by decide) oM rfl inX11 (by decide) fl_RX11_45 rfl rfl dX11_keeps_64 ?_
        refine nmul hx hb 96 (kpU u) dX11_keeps_67 (by decide) (by rw [sb_n (by decide)]; exact kp0_u hu) ?_
        refine lv_iload_n hx hb dX11_keeps_68 rfl (lv_at hl 0 rfl) ?_
        refine nadd hx hb (96 * (kpU u)) k dX11_keeps_69 rfl rfl ?_
        refine lv_aload_n hx hb dX11_keeps_70 rfl (lv_at hl 1 rfl) ?_
        refine gf S G hP 276 1 (by decide) oM rfl inX11 (by decide) fl_RX11_13 rfl rfl dX11_keeps_71 ?_
        refine lv_iload_n hx hb dX11_keeps_74 rfl (lv_at hl 0 rfl) ?_
        refine ald S G hP 278 k (by decide) (aM278 _) rfl (by omega) (by decide) dX11_keeps_75 ?_
        refine lv_tope (y := σ 278 k) (by rw [sb_n (by decide), kp0_c (by decide) (by decide)]) ?_
        refine ast S G hP hS 280 ((96 * (kpU u)) + k) (by decide) aM280 rfl (by omega) (by decide) dX11_keeps_76 (fun H locs hP hS => ?_)
        refine lv_iinc (v := nI (k + 1)) (lv' := [(2, .int (nI (k + 1))), (0, .ref (ad 276)), (1, .int x)]) hx hb dX11_keeps_77 hl (k := 0) rfl (nI_inc _) (by decide) rfl (fun ls hl => ?_)
        refine lv_goto (tgt := 51) hx hb dX11_keeps_80 (by decide) ?_
        exact ih (k + 1) (by omega)  _ _ _ (wP_e hP (by rw [sg_sb, putR_s])) hS (by first | exact lv_sub hl [0, 1, 2] rfl | (refine lv_v (lv_sub (l' := [(2, .int (nI (k + 1))), (0, .ref (ad 276)), (1, .int x)]) hl [0, 1, 2] rfl) ?_; simp [fo, c_54]; done))
    exact key_51 96 0 (by omega)  _ _ _ (wP_e hP (by rw [putR_0, sb_self])) hS (lv_sub hl [0, 1, 2] rfl)
  refine lv_icmp_ne (tgt := 49) hx hb dX11_keeps_6 (by decide) (fun c_6 => ?_) (fun c_6 => ?_)
  · exact jn_6_1 _ _ _ (wP_e hP (by first | exact (if_pos hu9).symm | exact (if_neg (fun h : u = 8 => c_6 (by rw [hu, h]; rfl))).symm)) hS (lv_sub hl [0, 1] rfl)
  · have hu9 : u = 8 := by rw [hu] at c_6; exact (nI_eq (b := 8) (by omega) (by decide)).mp c_6
    refine lv_iconst (v := 0) hx hb dX11_keeps_9 (by decide) ?_
    refine lv_istore_n (lv' := [(2, .int 0), (0, .ref (ad 276)), (1, .int x)]) hx hb dX11_keeps_10 rfl hl (by decide) rfl (fun ls hl => ?_)
    have key_11 : ∀ (d k : Nat), k + d = 672 → ∀ (H : Heap) (locs : List Loc) (ls : Array Slot), wP D ct ek ad X (sb σ 280 (fil (fun q => σ 280 (96 + q)) (σ 280) k)) H → va_S (fr N0) s.heap H locs → lv_has ls 3 [(2, .int (nI k)), (0, .ref (ad 276)), (1, .int x)] → W p l e (rmd 0 0 0) s m args below meth c H locs 0 0 (MQ below (wQi D ct ek ad N0 X (fun r τ => r = x ∧ τ = keepM σ u)) args s 0 0 (fr N0)) (F0 m 11 ls []) := by
      intro d
      induction d with
      | zero =>
        intro k9 hk
        obtain rfl : 672 = k9 := by omega
        intro  H locs ls hP hS hl
        refine lv_iload_n hx hb dX11_keeps_11 rfl (lv_at hl 0 rfl) ?_
        refine lv_sipush (v := 672) hx hb dX11_keeps_12 (by decide) ?_
        refine lv_icmp_ge (tgt := 39) hx hb dX11_keeps_15 (by decide) (fun c_15 => ?_) (fun c_15 => absurd (by decide) c_15)
        refine lv_aload_n hx hb dX11_keeps_39 rfl (lv_at hl 1 rfl) ?_
        refine lv_dup hx hb dX11_keeps_40 rfl ?_
        refine gf S G hP 276 4 (by decide) oM rfl inX11 (by decide) fl_RX11_45 rfl rfl dX11_keeps_41 ?_
        refine lv_tope (y := nI 8) (by rw [sb_n (by decide), hu, hu9]) ?_
        refine lv_iconst (v := 1) hx hb dX11_keeps_44 (by decide) ?_
        refine nsub hx hb 8 1 dX11_keeps_45 rfl (by decide) (by decide) ?_
        refine pf S G hP hS 276 4 (x := nI (8 - 1)) tyX11 tyX11_ok nmX11 (by decide) oM rfl inX11 (by decide) fl_RX11_45 rfl rfl rfl rfl (Nat.le_of_ble_eq_true rfl) oM dX11_keeps_46 (fun H locs hP hS => ?_)
        exact jn_6_1 _ _ _ (wP_e hP (by first | exact (if_pos hu9).symm | exact (if_neg (fun h : u = 8 => c_6 (by rw [hu, h]; rfl))).symm)) hS (lv_sub hl [1, 2] rfl)
      | succ d ih =>
        intro k hk  H locs ls hP hS hl
        have hkn : k < 672 := by omega
        refine lv_iload_n hx hb dX11_keeps_11 rfl (lv_at hl 0 rfl) ?_
        refine lv_sipush (v := 672) hx hb dX11_keeps_12 (by decide) ?_
        refine lv_icmp_ge (tgt := 39) hx hb dX11_keeps_15 (by decide) (fun c_15 => absurd c_15 (nI_ge (b := 672) (by omega) (by omega))) (fun c_15 => ?_)
        refine lv_aload_n hx hb dX11_keeps_18 rfl (lv_at hl 1 rfl) ?_
        refine gf S G hP 276 3 (by decide) oM rfl inX11 (by decide) fl_RX11_19 rfl rfl dX11_keeps_19 ?_
        refine lv_iload_n hx hb dX11_keeps_22 rfl (lv_at hl 0 rfl) ?_
        refine lv_aload_n hx hb dX11_keeps_23 rfl (lv_at hl 1 rfl) ?_
        refine gf S G hP 276 3 (by decide) oM rfl inX11 (by decide) fl_RX11_19 rfl rfl dX11_keeps_24 ?_
        refine lv_bipush (v := 96) hx hb dX11_keeps_27 (by decide) ?_
        refine lv_iload_n hx hb dX11_keeps_29 rfl (lv_at hl 0 rfl) ?_
        refine nadd hx hb 96 k dX11_keeps_30 (by decide) rfl ?_
        refine ald S G hP 280 (96 + k) (by decide) (aM280 _) rfl (by omega) (by decide) dX11_keeps_31 ?_
        refine lv_tope (y := σ 280 (96 + k)) (by rw [sb_s]; unfold fil; rw [if_neg (by omega)]) ?_
        refine ast S G hP hS 280 k (by decide) aM280 rfl (by omega) (by decide) dX11_keeps_32 (fun H locs hP hS => ?_)
        refine lv_iinc (v := nI (k + 1)) (lv' := [(2, .int (nI (k + 1))), (0, .ref (ad 276)), (1, .int x)]) hx hb dX11_keeps_33 hl (k := 0) rfl (nI_inc _) (by decide) rfl (fun ls hl => ?_)
        refine lv_goto (tgt := 11) hx hb dX11_keeps_36 (by decide) ?_
        exact ih (k + 1) (by omega)  _ _ _ (wP_e hP (by rw [sg_sb, fil_s rfl])) hS (by first | (refine lv_v (lv_sub (l' := [(2, .int (nI (k + 1))), (0, .ref (ad 276)), (1, .int x)]) hl [0, 1, 2] rfl) ?_; simp [fo, c_6, c_15]; done) | exact lv_sub hl [0, 1, 2] rfl)
    exact key_11 672 0 (by omega)  _ _ _ (wP_e hP (by rw [fil_0, sb_self])) hS (lv_sub hl [0, 1, 2] rfl)

theorem ok_yX11_does : COK RX11 yX11_does cX11_does 2 (some .boolean) 1 := ⟨im_yX11_does, se_RX11_yX11_does, in_RX11, co_yX11_does, ⟨rfl, by decide +kernel, by decide +kernel, by decide +kernel⟩, by decide⟩
set_option maxHeartbeats 1000000 in
set_option maxRecDepth 100000 in
theorem c_X11_does (l : Launch) {D : va_G} {ct : Nat → ClassId} {ek ad : Nat → Nat} {N0 : Nat} {X : va_W} {F : State → Prop} (σ : Mem) (x : Int32) : MI l yX11_does cX11_does 2 (some .boolean) 0 D ct ek ad N0 X F [.ref (ad 276), .int x] σ (fun r τ => r = 1 ∧ τ = sg σ 276 19 x) := by
  refine ms0 (own := RX11) (by decide) rfl (Nat.le_of_ble_eq_true rfl) (fun p e s m args below meth c S hr hlocks hnm G hP hS ls hl => ?_)
  have hx := S.1
  have hb := S.2.1
  replace hl : lv_has ls 2 [(0, .ref (ad 276)), (1, .int x)] := hl
  refine lv_aload_n hx hb dX11_does_0 rfl (lv_at hl 0 rfl) ?_
  refine lv_iload_n hx hb dX11_does_1 rfl (lv_at hl 1 rfl) ?_
  refine pf S G hP hS 276 19 (x := x) tyX11 tyX11_ok nmX11 (by decide) oM rfl inX11 (by decide) fl_RX11_48 rfl rfl rfl rfl (Nat.le_of_ble_eq_true rfl) oM dX11_does_2 (fun H locs hP hS => ?_)
  refine lv_iconst (v := 1) hx hb dX11_does_5 (by decide) ?_
  exact eZ S hr hlocks hP hS (by decide) dX11_does_6 (by first | exact ⟨rfl, rfl⟩ | (refine ⟨?_, rfl⟩; simp []; done) | (simp []; done) | (simp only [↓reduceIte, if_true, if_false, and_self, true_and]; done) | grind [])

theorem ok_yX11_refuses : COK RX11 yX11_refuses cX11_refuses 3 (some .boolean) 2 := ⟨im_yX11_refuses, se_RX11_yX11_refuses, in_RX11, co_yX11_refuses, ⟨rfl, by decide +kernel, by decide +kernel, by decide +kernel⟩, by decide⟩
set_option maxHeartbeats 1000000 in
set_option maxRecDepth 100000 in
theorem c_X11_refuses (l : Launch) {D : va_G} {ct : Nat → ClassId} {ek ad : Nat → Nat} {N0 : Nat} {X : va_W} {F : State → Prop} (σ : Mem) (x : Int32) (y : Int32) : MI l yX11_refuses cX11_refuses 3 (some .boolean) 0 D ct ek ad N0 X F [.ref (ad 276), .int x, .int y] σ (fun r τ => r = 0 ∧ τ = refR σ x y) := by
  refine ms0 (own := RX11) (by decide) rfl (Nat.le_of_ble_eq_true rfl) (fun p e s m args below meth c S hr hlocks hnm G hP hS ls hl => ?_)
  have hx := S.1
  have hb := S.2.1
  replace hl : lv_has ls 3 [(0, .ref (ad 276)), (1, .int x), (2, .int y)] := hl
  refine lv_aload_n hx hb dX11_refuses_0 rfl (lv_at hl 0 rfl) ?_
  refine lv_iload_n hx hb dX11_refuses_1 rfl (lv_at hl 1 rfl) ?_
  refine pf S G hP hS 276 16 (x := x) tyX11 tyX11_ok nmX11 (by decide) oM rfl inX11 (by decide) fl_RX11_51 rfl rfl rfl rfl (Nat.le_of_ble_eq_true rfl) oM dX11_refuses_2 (fun H locs hP hS => ?_)
  refine lv_aload_n hx hb dX11_refuses_5 rfl (lv_at hl 0 rfl) ?_
  refine lv_iload_n hx hb dX11_refuses_6 rfl (lv_at hl 2 rfl) ?_
  refine pf S G hP hS 276 17 (x := y) tyX11 tyX11_ok nmX11 (by decide) oM rfl inX11 (by decide) fl_RX11_54 rfl rfl rfl rfl (Nat.le_of_ble_eq_true rfl) oM dX11_refuses_7 (fun H locs hP hS => ?_)
  refine lv_aload_n hx hb dX11_refuses_10 rfl (lv_at hl 0 rfl) ?_
  refine lv_iconst (v := 0) hx hb dX11_refuses_11 (by decide) ?_
  refine pf S G hP hS 276 18 (x := 0) tyX11 tyX11_ok nmX11 (by decide) oM rfl inX11 (by decide) fl_RX11_57 rfl rfl rfl rfl (Nat.le_of_ble_eq_true rfl) oM dX11_refuses_12 (fun H locs hP hS => ?_)
  refine lv_iconst (v := 0) hx hb dX11_refuses_15 (by decide) ?_
  exact eZ S hr hlocks hP hS (by decide) dX11_refuses_16 (by first | exact ⟨rfl, rfl⟩ | (refine ⟨?_, rfl⟩; simp [refR]; done) | (simp [refR]; done) | (simp only [refR, ↓reduceIte, if_true, if_false, and_self, true_and]; done) | grind [refR])

theorem ok_yX11_ends : COK RX11 yX11_ends cX11_ends 2 (some .int) 1 := ⟨im_yX11_ends, se_RX11_yX11_ends, in_RX11, co_yX11_ends, ⟨rfl, by decide +kernel, by decide +kernel, by decide +kernel⟩, by decide⟩
set_option maxHeartbeats 1000000 in
set_option maxRecDepth 100000 in
theorem c_X11_ends (l : Launch) {D : va_G} {ct : Nat → ClassId} {ek ad : Nat → Nat} {N0 : Nat} {X : va_W} {F : State → Prop} (σ : Mem) (x : Int32) (u : Nat) (hu : σ 276 4 = nI u) (hu8 : u ≤ 8) : MI l yX11_ends cX11_ends 2 (some .int) 1 D ct ek ad N0 X F [.ref (ad 276), .int x] σ (fun r τ => r = endV x σ ∧ τ = endM x σ u) := by
  refine ms0 (own := RX11) (by decide) rfl (Nat.le_of_ble_eq_true rfl) (fun p e s m args below meth c S hr hlocks hnm G hP hS ls hl => ?_)
  have hx := S.1
  have hb := S.2.1
  replace hl : lv_has ls 2 [(0, .ref (ad 276)), (1, .int x)] := hl
  refine lv_iload_n hx hb dX11_ends_0 rfl (lv_at hl 1 rfl) ?_
  refine lv_if_eq (tgt := 15) hx hb dX11_ends_1 (by decide) (fun c_1 => ?_) (fun c_1 => ?_)
  · refine lv_aload_n hx hb dX11_ends_15 rfl (lv_at hl 0 rfl) ?_
    refine lv_iconst (v := 1) hx hb dX11_ends_16 (by decide) ?_
    refine cVie (As := [.int 1]) S G 276 (c_X11_raises l (D := D) (ct := ct) (ek := ek) (ad := ad) (N0 := N0) (X := X) (F := F) σ 1) ok_yX11_raises ml_RX11_64 (by decide) oM rfl hP hS hl.1 rfl (by decide) rfl rfl (Nat.le_of_ble_eq_true rfl) ⟨Nat.zero_le _, Nat.zero_le _⟩ dX11_ends_17 (fun H locs hP hS => ?_)
    exact eI S hr hlocks hP hS dX11_ends_20 (by first | (refine ⟨?_, ?_⟩ <;> simp only [endV, endM, c_1, ↓reduceIte, if_true, if_false, eq_self]; done) | (refine ⟨?_, rfl⟩; simp only [endV, endM, c_1, ↓reduceIte, if_true, if_false, eq_self]; done) | exact ⟨rfl, rfl⟩ | (refine ⟨?_, rfl⟩; simp [endV, endM, c_1]; done) | (simp [endV, endM, c_1]; done) | grind [endV, endM])
  · refine lv_aload_n hx hb dX11_ends_4 rfl (lv_at hl 0 rfl) ?_
    refine lv_aload_n hx hb dX11_ends_5 rfl (lv_at hl 0 rfl) ?_
    refine gf S G hP 276 19 (by decide) oM rfl inX11 (by decide) fl_RX11_48 rfl rfl dX11_ends_6 ?_
    refine cVie (As := [.int (σ 276 19)]) S G 276 (c_X11_keeps l (D := D) (ct := ct) (ek := ek) (ad := ad) (N0 := N0) (X := X) (F := F) σ (σ 276 19) u (by first | assumption | omega | (simp [sg_at]; assumption) | (simp [sg_at]; done)) (by omega)) ok_yX11_keeps ml_RX11_60 (by decide) oM rfl hP hS hl.1 rfl (by decide) rfl rfl (Nat.le_of_ble_eq_true rfl) ⟨Nat.zero_le _, Nat.zero_le _⟩ dX11_ends_9 (fun H locs hP hS => ?_)
    refine lv_goto (tgt := 20) hx hb dX11_ends_12 (by decide) ?_
    exact eI S hr hlocks hP hS dX11_ends_20 (by first | (refine ⟨?_, ?_⟩ <;> simp only [endV, endM, c_1, ↓reduceIte, if_true, if_false, eq_self]; done) | (refine ⟨?_, rfl⟩; simp only [endV, endM, c_1, ↓reduceIte, if_true, if_false, eq_self]; done) | exact ⟨rfl, rfl⟩ | (refine ⟨?_, rfl⟩; simp [endV, endM, c_1]; done) | (simp [endV, endM, c_1]; done) | grind [endV, endM])

theorem ok_yX11_isOne : COK RX11 yX11_isOne cX11_isOne 2 (some .boolean) 1 := ⟨im_yX11_isOne, se_RX11_yX11_isOne, in_RX11, co_yX11_isOne, ⟨rfl, by decide +kernel, by decide +kernel, by decide +kernel⟩, by decide⟩
set_option maxHeartbeats 1000000 in
set_option maxRecDepth 100000 in
theorem c_X11_isOne (l : Launch) {D : va_G} {ct : Nat → ClassId} {ek ad : Nat → Nat} {N0 : Nat} {X : va_W} {F : State → Prop} (σ : Mem) (x : Int32) : MI l yX11_isOne cX11_isOne 2 (some .boolean) 1 D ct ek ad N0 X F [.ref (ad 276), .int x] σ (fun r τ => r = one1 σ x ∧ τ = σ) := by
  refine ms0 (own := RX11) (by decide) rfl (Nat.le_of_ble_eq_true rfl) (fun p e s m args below meth c S hr hlocks hnm G hP hS ls hl => ?_)
  have hx := S.1
  have hb := S.2.1
  replace hl : lv_has ls 2 [(0, .ref (ad 276)), (1, .int x)] := hl
  refine lv_iload_n hx hb dX11_isOne_0 rfl (lv_at hl 1 rfl) ?_
  refine lv_iconst (v := 0) hx hb dX11_isOne_1 (by decide) ?_
  refine lv_aload_n hx hb dX11_isOne_2 rfl (lv_at hl 0 rfl) ?_
  refine gf S G hP 276 0 (by decide) oM rfl inX11 (by decide) fl_RX11_9 rfl rfl dX11_isOne_3 ?_
  refine lv_iconst (v := 0) hx hb dX11_isOne_6 (by decide) ?_
  refine ald S G hP 277 0 (by decide) (aM277 _) (by decide) (by omega) (by decide) dX11_isOne_7 ?_
  refine lv_iconst (v := 1) hx hb dX11_isOne_8 (by decide) ?_
  refine lv_isub hx hb dX11_isOne_9 ?_
  refine cSie (As := [.int x, .int 0, .int ((σ 277 0) - 1)]) S G (c_X11_in l (D := D) (ct := ct) (ek := ek) (ad := ad) (N0 := N0) (X := X) (F := F) σ x 0 ((σ 277 0) - 1)) ok_yX11_in ml_RX11_67 hP hS hl.1 rfl (by decide) rfl rfl (Nat.le_of_ble_eq_true rfl) ⟨Nat.zero_le _, Nat.zero_le _⟩ dX11_isOne_10 (fun H locs hP hS => ?_)
  exact eZ S hr hlocks hP hS rngB_nar dX11_isOne_13 (by first | exact ⟨rfl, rfl⟩ | (refine ⟨?_, rfl⟩; simp [one1]; done) | (simp [one1]; done) | (simp only [one1, ↓reduceIte, if_true, if_false, and_self, true_and]; done) | grind [one1])

theorem ok_yX11_isThere : COK RX11 yX11_isThere cX11_isThere 2 (some .boolean) 1 := ⟨im_yX11_isThere, se_RX11_yX11_isThere, in_RX11, co_yX11_isThere, ⟨rfl, by decide +kernel, by decide +kernel, by decide +kernel⟩, by decide⟩
set_option maxHeartbeats 1000000 in
set_option maxRecDepth 100000 in
theorem c_X11_isThere (l : Launch) {D : va_G} {ct : Nat → ClassId} {ek ad : Nat → Nat} {N0 : Nat} {X : va_W} {F : State → Prop} (σ : Mem) (x : Int32) : MI l yX11_isThere cX11_isThere 2 (some .boolean) 2 D ct ek ad N0 X F [.ref (ad 276), .int x] σ (fun r τ => r = tcB σ x ∧ τ = tcM σ x) := by
  refine ms0 (own := RX11) (by decide) rfl (Nat.le_of_ble_eq_true rfl) (fun p e s m args below meth c S hr hlocks hnm G hP hS ls hl => ?_)
  have hx := S.1
  have hb := S.2.1
  replace hl : lv_has ls 2 [(0, .ref (ad 276)), (1, .int x)] := hl
  refine lv_aload_n hx hb dX11_isThere_0 rfl (lv_at hl 0 rfl) ?_
  refine lv_iload_n hx hb dX11_isThere_1 rfl (lv_at hl 1 rfl) ?_
  refine cVie (As := [.int x]) S G 276 (c_X11_isOne l (D := D) (ct := ct) (ek := ek) (ad := ad) (N0 := N0) (X := X) (F := F) σ x) ok_yX11_isOne ml_RX11_71 (by decide) oM rfl hP hS hl.1 rfl (by decide) rfl rfl (Nat.le_of_ble_eq_true rfl) ⟨Nat.zero_le _, Nat.zero_le _⟩ dX11_isThere_2 (fun H locs hP hS => ?_)
  refine lv_if_ne (tgt := 22) hx hb dX11_isThere_5 (by decide) (fun c_5 => ?_) (fun c_5 => ?_)
  · refine lv_iconst (v := 1) hx hb dX11_isThere_22 (by decide) ?_
    refine lv_goto (tgt := 27) hx hb dX11_isThere_23 (by decide) ?_
    exact eZ S hr hlocks hP hS (by decide) dX11_isThere_27 (by first | (refine ⟨?_, ?_⟩ <;> simp only [tcB, tcM, c_5, ↓reduceIte, if_true, if_false, eq_self]; done) | (refine ⟨?_, rfl⟩; simp only [tcB, tcM, c_5, ↓reduceIte, if_true, if_false, eq_self]; done) | exact ⟨rfl, rfl⟩ | (refine ⟨?_, rfl⟩; simp [tcB, tcM, c_5]; done) | (simp [tcB, tcM, c_5]; done) | grind [tcB, tcM])
  · refine lv_aload_n hx hb dX11_isThere_8 rfl (lv_at hl 0 rfl) ?_
    refine lv_iconst (v := 3) hx hb dX11_isThere_9 (by decide) ?_
    refine lv_aload_n hx hb dX11_isThere_10 rfl (lv_at hl 0 rfl) ?_
    refine gf S G hP 276 0 (by decide) oM rfl inX11 (by decide) fl_RX11_9 rfl rfl dX11_isThere_11 ?_
    refine lv_iconst (v := 0) hx hb dX11_isThere_14 (by decide) ?_
    refine ald S G hP 277 0 (by decide) (aM277 _) (by decide) (by omega) (by decide) dX11_isThere_15 ?_
    refine cVie (As := [.int 3, .int (σ 277 0)]) S G 276 (c_X11_refuses l (D := D) (ct := ct) (ek := ek) (ad := ad) (N0 := N0) (X := X) (F := F) σ 3 (σ 277 0)) ok_yX11_refuses ml_RX11_75 (by decide) oM rfl hP hS hl.1 rfl (by decide) rfl rfl (Nat.le_of_ble_eq_true rfl) ⟨Nat.zero_le _, Nat.zero_le _⟩ dX11_isThere_16 (fun H locs hP hS => ?_)
    refine lv_if_eq (tgt := 26) hx hb dX11_isThere_19 (by decide) (fun c_19 => ?_) (fun c_19 => absurd (by decide) c_19)
    refine lv_iconst (v := 0) hx hb dX11_isThere_26 (by decide) ?_
    exact eZ S hr hlocks hP hS (by decide) dX11_isThere_27 (by first | (refine ⟨?_, ?_⟩ <;> simp only [tcB, tcM, c_5, c_19, ↓reduceIte, if_true, if_false, eq_self]; done) | (refine ⟨?_, rfl⟩; simp only [tcB, tcM, c_5, c_19, ↓reduceIte, if_true, if_false, eq_self]; done) | exact ⟨rfl, rfl⟩ | (refine ⟨?_, rfl⟩; simp [tcB, tcM, c_5, c_19]; done) | (simp [tcB, tcM, c_5, c_19]; done) | grind [tcB, tcM])

theorem ok_yX11_of : COK RX11 yX11_of cX11_of 3 (some .int) 2 := ⟨im_yX11_of, se_RX11_yX11_of, in_RX11, co_yX11_of, ⟨rfl, by decide +kernel, by decide +kernel, by decide +kernel⟩, by decide⟩
set_option maxHeartbeats 1000000 in
set_option maxRecDepth 100000 in
theorem c_X11_of (l : Launch) {D : va_G} {ct : Nat → ClassId} {ek ad : Nat → Nat} {N0 : Nat} {X : va_W} {F : State → Prop} (σ : Mem) (i : Nat) (hi : i < 6) (j : Nat) (hj : j < 5) : MI l yX11_of cX11_of 3 (some .int) 0 D ct ek ad N0 X F [.ref (ad 276), .int (nI i), .int (nI j)] σ (fun r τ => r = σ 277 (6 + 5 * i + j) ∧ τ = σ) := by
  refine ms0 (own := RX11) (by decide) rfl (Nat.le_of_ble_eq_true rfl) (fun p e s m args below meth c S hr hlocks hnm G hP hS ls hl => ?_)
  have hx := S.1
  have hb := S.2.1
  replace hl : lv_has ls 3 [(0, .ref (ad 276)), (1, .int (nI i)), (2, .int (nI j))] := hl
  refine lv_aload_n hx hb dX11_of_0 rfl (lv_at hl 0 rfl) ?_
  refine gf S G hP 276 0 (by decide) oM rfl inX11 (by decide) fl_RX11_9 rfl rfl dX11_of_1 ?_
  refine lv_bipush (v := 6) hx hb dX11_of_4 (by decide) ?_
  refine lv_iconst (v := 5) hx hb dX11_of_6 (by decide) ?_
  refine lv_iload_n hx hb dX11_of_7 rfl (lv_at hl 1 rfl) ?_
  refine nmul hx hb 5 i dX11_of_8 (by decide) rfl ?_
  refine nadd hx hb 6 (5 * i) dX11_of_9 (by decide) rfl ?_
  refine lv_iload_n hx hb dX11_of_10 rfl (lv_at hl 2 rfl) ?_
  refine nadd hx hb (6 + (5 * i)) j dX11_of_11 rfl rfl ?_
  refine ald S G hP 277 ((6 + (5 * i)) + j) (by decide) (aM277 _) rfl (by omega) (by decide) dX11_of_12 ?_
  exact eI S hr hlocks hP hS dX11_of_13 (by first | exact ⟨rfl, rfl⟩ | (refine ⟨?_, rfl⟩; simp []; done) | (simp []; done) | (simp only [↓reduceIte, if_true, if_false, and_self, true_and]; done) | grind [])

theorem ok_yX11_sets : COK RX11 yX11_sets cX11_sets 4 none 3 := ⟨im_yX11_sets, se_RX11_yX11_sets, in_RX11, co_yX11_sets, ⟨rfl, by decide +kernel, by decide +kernel, by decide +kernel⟩, by decide⟩
set_option maxHeartbeats 1000000 in
set_option maxRecDepth 100000 in
theorem c_X11_sets (l : Launch) {D : va_G} {ct : Nat → ClassId} {ek ad : Nat → Nat} {N0 : Nat} {X : va_W} {F : State → Prop} (σ : Mem) (i : Nat) (hi : i < 6) (j : Nat) (hj : j < 5) (x : Int32) : MV l yX11_sets cX11_sets 4 0 D ct ek ad N0 X F [.ref (ad 276), .int (nI i), .int (nI j), .int x] σ (fun τ => τ = sg σ 277 (6 + 5 * i + j) x) := by
  refine ms0 (own := RX11) (by decide) rfl (Nat.le_of_ble_eq_true rfl) (fun p e s m args below meth c S hr hlocks hnm G hP hS ls hl => ?_)
  have hx := S.1
  have hb := S.2.1
  replace hl : lv_has ls 4 [(0, .ref (ad 276)), (1, .int (nI i)), (2, .int (nI j)), (3, .int x)] := hl
  refine lv_aload_n hx hb dX11_sets_0 rfl (lv_at hl 0 rfl) ?_
  refine gf S G hP 276 0 (by decide) oM rfl inX11 (by decide) fl_RX11_9 rfl rfl dX11_sets_1 ?_
  refine lv_bipush (v := 6) hx hb dX11_sets_4 (by decide) ?_
  refine lv_iconst (v := 5) hx hb dX11_sets_6 (by decide) ?_
  refine lv_iload_n hx hb dX11_sets_7 rfl (lv_at hl 1 rfl) ?_
  refine nmul hx hb 5 i dX11_sets_8 (by decide) rfl ?_
  refine nadd hx hb 6 (5 * i) dX11_sets_9 (by decide) rfl ?_
  refine lv_iload_n hx hb dX11_sets_10 rfl (lv_at hl 2 rfl) ?_
  refine nadd hx hb (6 + (5 * i)) j dX11_sets_11 rfl rfl ?_
  refine lv_iload_n hx hb dX11_sets_12 rfl (lv_at hl 3 rfl) ?_
  refine ast S G hP hS 277 ((6 + (5 * i)) + j) (by decide) aM277 rfl (by omega) (by decide) dX11_sets_13 (fun H locs hP hS => ?_)
  exact eV S hr hlocks hP hS dX11_sets_14 (by first | rfl | (simp []; done) | (simp only [↓reduceIte, if_true, if_false]; done) | grind [])

theorem ok_yX11_weighs : COK RX11 yX11_weighs cX11_weighs 3 (some .int) 2 := ⟨im_yX11_weighs, se_RX11_yX11_weighs, in_RX11, co_yX11_weighs, ⟨rfl, by decide +kernel, by decide +kernel, by decide +kernel⟩, by decide⟩
set_option maxHeartbeats 1000000 in
set_option maxRecDepth 100000 in
theorem c_X11_weighs (l : Launch) {D : va_G} {ct : Nat → ClassId} {ek ad : Nat → Nat} {N0 : Nat} {X : va_W} {F : State → Prop} (σ : Mem) (i : Nat) (hi : i < 6) (j : Nat) (hj : j < 6) : MI l yX11_weighs cX11_weighs 3 (some .int) 0 D ct ek ad N0 X F [.ref (ad 276), .int (nI i), .int (nI j)] σ (fun r τ => r = σ 277 (36 + 6 * i + j) ∧ τ = σ) := by
  refine ms0 (own := RX11) (by decide) rfl (Nat.le_of_ble_eq_true rfl) (fun p e s m args below meth c S hr hlocks hnm G hP hS ls hl => ?_)
  have hx := S.1
  have hb := S.2.1
  replace hl : lv_has ls 3 [(0, .ref (ad 276)), (1, .int (nI i)), (2, .int (nI j))] := hl
  refine lv_aload_n hx hb dX11_weighs_0 rfl (lv_at hl 0 rfl) ?_
  refine gf S G hP 276 0 (by decide) oM rfl inX11 (by decide) fl_RX11_9 rfl rfl dX11_weighs_1 ?_
  refine lv_bipush (v := 36) hx hb dX11_weighs_4 (by decide) ?_
  refine lv_bipush (v := 6) hx hb dX11_weighs_6 (by decide) ?_
  refine lv_iload_n hx hb dX11_weighs_8 rfl (lv_at hl 1 rfl) ?_
  refine nmul hx hb 6 i dX11_weighs_9 (by decide) rfl ?_
  refine nadd hx hb 36 (6 * i) dX11_weighs_10 (by decide) rfl ?_
  refine lv_iload_n hx hb dX11_weighs_11 rfl (lv_at hl 2 rfl) ?_
  refine nadd hx hb (36 + (6 * i)) j dX11_weighs_12 rfl rfl ?_
  refine ald S G hP 277 ((36 + (6 * i)) + j) (by decide) (aM277 _) rfl (by omega) (by decide) dX11_weighs_13 ?_
  exact eI S hr hlocks hP hS dX11_weighs_14 (by first | exact ⟨rfl, rfl⟩ | (refine ⟨?_, rfl⟩; simp []; done) | (simp []; done) | (simp only [↓reduceIte, if_true, if_false, and_self, true_and]; done) | grind [])

theorem ok_yX11_beam : COK RX11 yX11_beam cX11_beam 3 (some .int) 2 := ⟨im_yX11_beam, se_RX11_yX11_beam, in_RX11, co_yX11_beam, ⟨rfl, by decide +kernel, by decide +kernel, by decide +kernel⟩, by decide⟩
set_option maxHeartbeats 1000000 in
set_option maxRecDepth 100000 in
theorem c_X11_beam (l : Launch) {D : va_G} {ct : Nat → ClassId} {ek ad : Nat → Nat} {N0 : Nat} {X : va_W} {F : State → Prop} (σ : Mem) (i : Nat) (hi : i < 6) (j : Nat) (hj : j < 4) : MI l yX11_beam cX11_beam 3 (some .int) 0 D ct ek ad N0 X F [.ref (ad 276), .int (nI i), .int (nI j)] σ (fun r τ => r = σ 277 (72 + 4 * i + j) ∧ τ = σ) := by
  refine ms0 (own := RX11) (by decide) rfl (Nat.le_of_ble_eq_true rfl) (fun p e s m args below meth c S hr hlocks hnm G hP hS ls hl => ?_)
  have hx := S.1
  have hb := S.2.1
  replace hl : lv_has ls 3 [(0, .ref (ad 276)), (1, .int (nI i)), (2, .int (nI j))] := hl
  refine lv_aload_n hx hb dX11_beam_0 rfl (lv_at hl 0 rfl) ?_
  refine gf S G hP 276 0 (by decide) oM rfl inX11 (by decide) fl_RX11_9 rfl rfl dX11_beam_1 ?_
  refine lv_bipush (v := 72) hx hb dX11_beam_4 (by decide) ?_
  refine lv_iconst (v := 4) hx hb dX11_beam_6 (by decide) ?_
  refine lv_iload_n hx hb dX11_beam_7 rfl (lv_at hl 1 rfl) ?_
  refine nmul hx hb 4 i dX11_beam_8 (by decide) rfl ?_
  refine nadd hx hb 72 (4 * i) dX11_beam_9 (by decide) rfl ?_
  refine lv_iload_n hx hb dX11_beam_10 rfl (lv_at hl 2 rfl) ?_
  refine nadd hx hb (72 + (4 * i)) j dX11_beam_11 rfl rfl ?_
  refine ald S G hP 277 ((72 + (4 * i)) + j) (by decide) (aM277 _) rfl (by omega) (by decide) dX11_beam_12 ?_
  exact eI S hr hlocks hP hS dX11_beam_13 (by first | exact ⟨rfl, rfl⟩ | (refine ⟨?_, rfl⟩; simp []; done) | (simp []; done) | (simp only [↓reduceIte, if_true, if_false, and_self, true_and]; done) | grind [])

theorem ok_yX11_apart : COK RX11 yX11_apart cX11_apart 2 (some .int) 1 := ⟨im_yX11_apart, se_RX11_yX11_apart, in_RX11, co_yX11_apart, ⟨rfl, by decide +kernel, by decide +kernel, by decide +kernel⟩, by decide⟩
set_option maxHeartbeats 1000000 in
set_option maxRecDepth 100000 in
theorem c_X11_apart (l : Launch) {D : va_G} {ct : Nat → ClassId} {ek ad : Nat → Nat} {N0 : Nat} {X : va_W} {F : State → Prop} (σ : Mem) (i : Nat) (hi : i < 6) (hB : okB (σ 277) i) : MI l yX11_apart cX11_apart 2 (some .int) 1 D ct ek ad N0 X F [.ref (ad 276), .int (nI i)] σ (fun r τ => r = apR (σ 277) i ∧ τ = σ) := by
  refine ms0 (own := RX11) (by decide) rfl (Nat.le_of_ble_eq_true rfl) (fun p e s m args below meth c S hr hlocks hnm G hP hS ls hl => ?_)
  have hx := S.1
  have hb := S.2.1
  replace hl : lv_has ls 2 [(0, .ref (ad 276)), (1, .int (nI i))] := hl
  refine lv_aload_n hx hb dX11_apart_0 rfl (lv_at hl 0 rfl) ?_
  refine lv_aload_n hx hb dX11_apart_1 rfl (lv_at hl 0 rfl) ?_
  refine lv_iload_n hx hb dX11_apart_2 rfl (lv_at hl 1 rfl) ?_
  refine lv_iconst (v := 0) hx hb dX11_apart_3 (by decide) ?_
  refine cVie (As := [.int (nI i), .int (nI 0)]) S G 276 (c_X11_beam l (D := D) (ct := ct) (ek := ek) (ad := ad) (N0 := N0) (X := X) (F := F) σ i (by omega) 0 (by omega)) ok_yX11_beam ml_RX11_79 (by decide) oM rfl hP hS hl.1 rfl (by decide) rfl rfl (Nat.le_of_ble_eq_true rfl) ⟨Nat.zero_le _, Nat.zero_le _⟩ dX11_apart_4 (fun H locs hP hS => ?_)
  refine lv_tope (y := nI (tN (σ 277 (72 + 4 * i + 0)))) hB.1.1 ?_
  refine lv_iconst (v := 0) hx hb dX11_apart_7 (by decide) ?_
  refine cVie (As := [.int (nI (tN (σ 277 (72 + 4 * i + 0)))), .int (nI 0)]) S G 276 (c_X11_of l (D := D) (ct := ct) (ek := ek) (ad := ad) (N0 := N0) (X := X) (F := F) σ (tN (σ 277 (72 + 4 * i + 0))) hB.1.2 0 (by omega)) ok_yX11_of ml_RX11_83 (by decide) oM rfl hP hS hl.1 rfl (by decide) rfl rfl (Nat.le_of_ble_eq_true rfl) ⟨Nat.zero_le _, Nat.zero_le _⟩ dX11_apart_8 (fun H locs hP hS => ?_)
  refine lv_aload_n hx hb dX11_apart_11 rfl (lv_at hl 0 rfl) ?_
  refine lv_aload_n hx hb dX11_apart_12 rfl (lv_at hl 0 rfl) ?_
  refine lv_iload_n hx hb dX11_apart_13 rfl (lv_at hl 1 rfl) ?_
  refine lv_iconst (v := 1) hx hb dX11_apart_14 (by decide) ?_
  refine cVie (As := [.int (nI i), .int (nI 1)]) S G 276 (c_X11_beam l (D := D) (ct := ct) (ek := ek) (ad := ad) (N0 := N0) (X := X) (F := F) σ i (by omega) 1 (by omega)) ok_yX11_beam ml_RX11_79 (by decide) oM rfl hP hS hl.1 rfl (by decide) rfl rfl (Nat.le_of_ble_eq_true rfl) ⟨Nat.zero_le _, Nat.zero_le _⟩ dX11_apart_15 (fun H locs hP hS => ?_)
  refine lv_tope (y := nI (tN (σ 277 (72 + 4 * i + 1)))) hB.2.1 ?_
  refine lv_iconst (v := 0) hx hb dX11_apart_18 (by decide) ?_
  refine cVie (As := [.int (nI (tN (σ 277 (72 + 4 * i + 1)))), .int (nI 0)]) S G 276 (c_X11_of l (D := D) (ct := ct) (ek := ek) (ad := ad) (N0 := N0) (X := X) (F := F) σ (tN (σ 277 (72 + 4 * i + 1))) hB.2.2 0 (by omega)) ok_yX11_of ml_RX11_83 (by decide) oM rfl hP hS hl.1 rfl (by decide) rfl rfl (Nat.le_of_ble_eq_true rfl) ⟨Nat.zero_le _, Nat.zero_le _⟩ dX11_apart_19 (fun H locs hP hS => ?_)
  refine lv_isub hx hb dX11_apart_22 ?_
  refine rabs S rfl (by decide) hl.1 ml_RX11_86 (Nat.le_of_ble_eq_true rfl) ⟨Nat.zero_le _, Nat.zero_le _⟩ dX11_apart_23 ?_
  exact eI S hr hlocks hP hS dX11_apart_26 (by first | exact ⟨rfl, rfl⟩ | (refine ⟨?_, rfl⟩; simp [apR]; done) | (simp [apR]; done) | (simp only [apR, ↓reduceIte, if_true, if_false, and_self, true_and]; done) | grind [apR])

theorem ok_yX11_weights : COK RX11 yX11_weights cX11_weights 4 (some .int) 1 := ⟨im_yX11_weights, se_RX11_yX11_weights, in_RX11, co_yX11_weights, ⟨rfl, by decide +kernel, by decide +kernel, by decide +kernel⟩, by decide⟩
set_option maxHeartbeats 1000000 in
set_option maxRecDepth 100000 in
theorem c_X11_weights (l : Launch) {D : va_G} {ct : Nat → ClassId} {ek ad : Nat → Nat} {N0 : Nat} {X : va_W} {F : State → Prop} (σ : Mem) (i : Nat) (hi : i < 6) (n : Nat) (hn : σ 277 0 = nI n) (hn6 : n ≤ 6) : MI l yX11_weights cX11_weights 4 (some .int) 1 D ct ek ad N0 X F [.ref (ad 276), .int (nI i)] σ (fun r τ => r = wtR (σ 277) n i ∧ τ = σ) := by
  refine ms0 (own := RX11) (by decide) rfl (Nat.le_of_ble_eq_true rfl) (fun p e s m args below meth c S hr hlocks hnm G hP hS ls hl => ?_)
  have hx := S.1
  have hb := S.2.1
  replace hl : lv_has ls 4 [(0, .ref (ad 276)), (1, .int (nI i))] := hl
  have hs : ∀ k, sumR (fun q => σ 277 (36 + 6 * i + q)) 0 (k + 1) = sumR (fun q => σ 277 (36 + 6 * i + q)) 0 k + σ 277 (36 + 6 * i + k) := fun _ => rfl
  refine lv_iconst (v := 0) hx hb dX11_weights_0 (by decide) ?_
  refine lv_istore_n (lv' := [(2, .int 0), (0, .ref (ad 276)), (1, .int (nI i))]) hx hb dX11_weights_1 rfl hl (by decide) rfl (fun ls hl => ?_)
  refine lv_iconst (v := 0) hx hb dX11_weights_2 (by decide) ?_
  refine lv_istore_n (lv' := [(3, .int 0), (2, .int 0), (0, .ref (ad 276)), (1, .int (nI i))]) hx hb dX11_weights_3 rfl hl (by decide) rfl (fun ls hl => ?_)
  have key_4 : ∀ (d k : Nat), k + d = n → ∀ (H : Heap) (locs : List Loc) (ls : Array Slot), wP D ct ek ad X σ H → va_S (fr N0) s.heap H locs → lv_has ls 4 [(3, .int (nI k)), (2, .int (sumR (fun q => σ 277 (36 + 6 * i + q)) 0 k)), (0, .ref (ad 276)), (1, .int (nI i))] → W p l e (rmd 1 0 0) s m args below meth c H locs 0 0 (MQ below (wQi D ct ek ad N0 X (fun r τ => r = wtR (σ 277) n i ∧ τ = σ)) args s 0 0 (fr N0)) (F0 m 4 ls []) := by
    intro d
    induction d with
    | zero =>
      intro k9 hk
      obtain rfl : n = k9 := by omega
      intro  H locs ls hP hS hl
      refine lv_iload_n hx hb dX11_weights_4 rfl (lv_at hl 0 rfl) ?_
      refine lv_aload_n hx hb dX11_weights_5 rfl (lv_at hl 2 rfl) ?_
      refine gf S G hP 276 0 (by decide) oM rfl inX11 (by decide) fl_RX11_9 rfl rfl dX11_weights_6 ?_
      refine lv_iconst (v := 0) hx hb dX11_weights_9 (by decide) ?_
      refine ald S G hP 277 0 (by decide) (aM277 _) (by decide) (by omega) (by decide) dX11_weights_10 ?_
      refine lv_icmp_ge (tgt := 29) hx hb dX11_weights_11 (by decide) (fun c_11 => ?_) (fun c_11 => absurd (by rw [hn]; exact nI_le (by omega) (by omega)) c_11)
      refine lv_iload_n hx hb dX11_weights_29 rfl (lv_at hl 1 rfl) ?_
      exact eI S hr hlocks hP hS dX11_weights_30 (by first | (refine ⟨?_, ?_⟩ <;> simp only [wtR, c_11, ↓reduceIte, if_true, if_false, eq_self]; done) | (refine ⟨?_, rfl⟩; simp only [wtR, c_11, ↓reduceIte, if_true, if_false, eq_self]; done) | exact ⟨rfl, rfl⟩ | (refine ⟨?_, rfl⟩; simp [wtR, c_11]; done) | (simp [wtR, c_11]; done) | grind [wtR])
    | succ d ih =>
      intro k hk  H locs ls hP hS hl
      have hkn : k < n := by omega
      refine lv_iload_n hx hb dX11_weights_4 rfl (lv_at hl 0 rfl) ?_
      refine lv_aload_n hx hb dX11_weights_5 rfl (lv_at hl 2 rfl) ?_
      refine gf S G hP 276 0 (by decide) oM rfl inX11 (by decide) fl_RX11_9 rfl rfl dX11_weights_6 ?_
      refine lv_iconst (v := 0) hx hb dX11_weights_9 (by decide) ?_
      refine ald S G hP 277 0 (by decide) (aM277 _) (by decide) (by omega) (by decide) dX11_weights_10 ?_
      refine lv_icmp_ge (tgt := 29) hx hb dX11_weights_11 (by decide) (fun c_11 => absurd c_11 (by rw [hn]; exact nI_ge (by omega) (by omega))) (fun c_11 => ?_)
      refine lv_iload_n hx hb dX11_weights_14 rfl (lv_at hl 1 rfl) ?_
      refine lv_aload_n hx hb dX11_weights_15 rfl (lv_at hl 2 rfl) ?_
      refine lv_iload_n hx hb dX11_weights_16 rfl (lv_at hl 3 rfl) ?_
      refine lv_iload_n hx hb dX11_weights_17 rfl (lv_at hl 0 rfl) ?_
      refine cVie (As := [.int (nI i), .int (nI k)]) S G 276 (c_X11_weighs l (D := D) (ct := ct) (ek := ek) (ad := ad) (N0 := N0) (X := X) (F := F) σ i (by omega) k (by omega)) ok_yX11_weighs ml_RX11_91 (by decide) oM rfl hP hS hl.1 rfl (by decide) rfl rfl (Nat.le_of_ble_eq_true rfl) ⟨Nat.zero_le _, Nat.zero_le _⟩ dX11_weights_18 (fun H locs hP hS => ?_)
      refine lv_iadd hx hb dX11_weights_21 ?_
      refine lv_istore_n (lv' := [(2, .int ((sumR (fun q => σ 277 (36 + 6 * i + q)) 0 k) + (σ 277 (36 + 6 * i + k)))), (3, .int (nI k)), (0, .ref (ad 276)), (1, .int (nI i))]) hx hb dX11_weights_22 rfl hl (by decide) rfl (fun ls hl => ?_)
      refine lv_iinc (v := nI (k + 1)) (lv' := [(3, .int (nI (k + 1))), (2, .int ((sumR (fun q => σ 277 (36 + 6 * i + q)) 0 k) + (σ 277 (36 + 6 * i + k)))), (0, .ref (ad 276)), (1, .int (nI i))]) hx hb dX11_weights_23 hl (k := 1) rfl (nI_inc _) (by decide) rfl (fun ls hl => ?_)
      refine lv_goto (tgt := 4) hx hb dX11_weights_26 (by decide) ?_
      exact ih (k + 1) (by omega)  _ _ _ hP hS (by first | exact lv_sub hl [0, 1, 2, 3] rfl | (refine lv_v (lv_sub (l' := [(3, .int (nI (k + 1))), (2, .int ((sumR (fun q => σ 277 (36 + 6 * i + q)) 0 k) + (σ 277 (36 + 6 * i + k)))), (0, .ref (ad 276)), (1, .int (nI i))]) hl [0, 1, 2, 3] rfl) ?_; simp [fo, wtR, c_11]; done))
  exact key_4 n 0 (by omega)  _ _ _ hP hS (lv_sub hl [0, 1, 2, 3] rfl)

theorem ok_yX11_meanOf : COK RX11 yX11_meanOf cX11_meanOf 5 (some .int) 1 := ⟨im_yX11_meanOf, se_RX11_yX11_meanOf, in_RX11, co_yX11_meanOf, ⟨rfl, by decide +kernel, by decide +kernel, by decide +kernel⟩, by decide⟩
set_option maxHeartbeats 1000000 in
set_option maxRecDepth 100000 in
theorem c_X11_meanOf (l : Launch) {D : va_G} {ct : Nat → ClassId} {ek ad : Nat → Nat} {N0 : Nat} {X : va_W} {F : State → Prop} (σ : Mem) (i : Nat) (hi : i < 6) (n : Nat) (hn : σ 277 0 = nI n) (hn6 : n ≤ 6) (hd : ¬ σ 277 (6 + 5 * i + 1) + 1 + wtR (σ 277) n i = 0) : MI l yX11_meanOf cX11_meanOf 5 (some .int) 2 D ct ek ad N0 X F [.ref (ad 276), .int (nI i)] σ (fun r τ => r = mnR (σ 277) n i ∧ τ = σ) := by
  refine ms0 (own := RX11) (by decide) rfl (Nat.le_of_ble_eq_true rfl) (fun p e s m args below meth c S hr hlocks hnm G hP hS ls hl => ?_)
  have hx := S.1
  have hb := S.2.1
  replace hl : lv_has ls 5 [(0, .ref (ad 276)), (1, .int (nI i))] := hl
  refine lv_aload_n hx hb dX11_meanOf_0 rfl (lv_at hl 0 rfl) ?_
  refine lv_iload_n hx hb dX11_meanOf_1 rfl (lv_at hl 1 rfl) ?_
  refine lv_iconst (v := 1) hx hb dX11_meanOf_2 (by decide) ?_
  refine cVie (As := [.int (nI i), .int (nI 1)]) S G 276 (c_X11_of l (D := D) (ct := ct) (ek := ek) (ad := ad) (N0 := N0) (X := X) (F := F) σ i (by omega) 1 (by omega)) ok_yX11_of ml_RX11_83 (by decide) oM rfl hP hS hl.1 rfl (by decide) rfl rfl (Nat.le_of_ble_eq_true rfl) ⟨Nat.zero_le _, Nat.zero_le _⟩ dX11_meanOf_3 (fun H locs hP hS => ?_)
  refine lv_iconst (v := 1) hx hb dX11_meanOf_6 (by decide) ?_
  refine lv_iadd hx hb dX11_meanOf_7 ?_
  refine lv_istore_n (lv' := [(2, .int ((σ 277 (6 + 5 * i + 1)) + 1)), (0, .ref (ad 276)), (1, .int (nI i))]) hx hb dX11_meanOf_8 rfl hl (by decide) rfl (fun ls hl => ?_)
  refine lv_aload_n hx hb dX11_meanOf_9 rfl (lv_at hl 1 rfl) ?_
  refine lv_iload_n hx hb dX11_meanOf_10 rfl (lv_at hl 2 rfl) ?_
  refine lv_iconst (v := 0) hx hb dX11_meanOf_11 (by decide) ?_
  refine cVie (As := [.int (nI i), .int (nI 0)]) S G 276 (c_X11_of l (D := D) (ct := ct) (ek := ek) (ad := ad) (N0 := N0) (X := X) (F := F) σ i (by omega) 0 (by omega)) ok_yX11_of ml_RX11_83 (by decide) oM rfl hP hS hl.1 rfl (by decide) rfl rfl (Nat.le_of_ble_eq_true rfl) ⟨Nat.zero_le _, Nat.zero_le _⟩ dX11_meanOf_12 (fun H locs hP hS => ?_)
  refine lv_iload_n hx hb dX11_meanOf_15 rfl (lv_at hl 0 rfl) ?_
  refine lv_imul hx hb dX11_meanOf_16 ?_
  refine lv_istore_n (lv' := [(3, .int ((σ 277 (6 + 5 * i + 0)) * ((σ 277 (6 + 5 * i + 1)) + 1))), (2, .int ((σ 277 (6 + 5 * i + 1)) + 1)), (0, .ref (ad 276)), (1, .int (nI i))]) hx hb dX11_meanOf_17 rfl hl (by decide) rfl (fun ls hl => ?_)
  refine lv_iconst (v := 0) hx hb dX11_meanOf_18 (by decide) ?_
  refine lv_istore (lv' := [(4, .int 0), (3, .int ((σ 277 (6 + 5 * i + 0)) * ((σ 277 (6 + 5 * i + 1)) + 1))), (2, .int ((σ 277 (6 + 5 * i + 1)) + 1)), (0, .ref (ad 276)), (1, .int (nI i))]) hx hb dX11_meanOf_19 hl (by decide) rfl (fun ls hl => ?_)
  have key_21 : ∀ (d k : Nat), k + d = n → ∀ (H : Heap) (locs : List Loc) (ls : Array Slot), wP D ct ek ad X σ H → va_S (fr N0) s.heap H locs → lv_has ls 5 [(4, .int (nI k)), (3, .int (msR (σ 277) i k)), (2, .int ((σ 277 (6 + 5 * i + 1)) + 1)), (0, .ref (ad 276)), (1, .int (nI i))] → W p l e (rmd 2 0 0) s m args below meth c H locs 0 0 (MQ below (wQi D ct ek ad N0 X (fun r τ => r = mnR (σ 277) n i ∧ τ = σ)) args s 0 0 (fr N0)) (F0 m 21 ls []) := by
    intro d
    induction d with
    | zero =>
      intro k9 hk
      obtain rfl : n = k9 := by omega
      intro  H locs ls hP hS hl
      refine lv_iload hx hb dX11_meanOf_21 (lv_at hl 0 rfl) ?_
      refine lv_aload_n hx hb dX11_meanOf_23 rfl (lv_at hl 3 rfl) ?_
      refine gf S G hP 276 0 (by decide) oM rfl inX11 (by decide) fl_RX11_9 rfl rfl dX11_meanOf_24 ?_
      refine lv_iconst (v := 0) hx hb dX11_meanOf_27 (by decide) ?_
      refine ald S G hP 277 0 (by decide) (aM277 _) (by decide) (by omega) (by decide) dX11_meanOf_28 ?_
      refine lv_icmp_ge (tgt := 56) hx hb dX11_meanOf_29 (by decide) (fun c_29 => ?_) (fun c_29 => absurd (by rw [hn]; exact nI_le (by omega) (by omega)) c_29)
      refine lv_iload_n hx hb dX11_meanOf_56 rfl (lv_at hl 1 rfl) ?_
      refine lv_iload_n hx hb dX11_meanOf_57 rfl (lv_at hl 2 rfl) ?_
      refine lv_aload_n hx hb dX11_meanOf_58 rfl (lv_at hl 3 rfl) ?_
      refine lv_iload_n hx hb dX11_meanOf_59 rfl (lv_at hl 4 rfl) ?_
      refine cVie (As := [.int (nI i)]) S G 276 (c_X11_weights l (D := D) (ct := ct) (ek := ek) (ad := ad) (N0 := N0) (X := X) (F := F) σ i (by omega) n (by first | assumption | omega | (simp [sg_at]; assumption) | (simp [sg_at]; done)) (by omega)) ok_yX11_weights ml_RX11_94 (by decide) oM rfl hP hS hl.1 rfl (by decide) rfl rfl (Nat.le_of_ble_eq_true rfl) ⟨Nat.zero_le _, Nat.zero_le _⟩ dX11_meanOf_60 (fun H locs hP hS => ?_)
      refine lv_iadd hx hb dX11_meanOf_63 ?_
      refine lv_idiv hx hb dX11_meanOf_64 hd ?_
      exact eI S hr hlocks hP hS dX11_meanOf_65 (by first | (refine ⟨?_, ?_⟩ <;> simp only [mnR, c_29, ↓reduceIte, if_true, if_false, eq_self]; done) | (refine ⟨?_, rfl⟩; simp only [mnR, c_29, ↓reduceIte, if_true, if_false, eq_self]; done) | exact ⟨rfl, rfl⟩ | (refine ⟨?_, rfl⟩; simp [mnR, c_29]; done) | (simp [mnR, c_29]; done) | grind [mnR])
    | succ d ih =>
      intro k hk  H locs ls hP hS hl
      have hkn : k < n := by omega
      refine lv_iload hx hb dX11_meanOf_21 (lv_at hl 0 rfl) ?_
      refine lv_aload_n hx hb dX11_meanOf_23 rfl (lv_at hl 3 rfl) ?_
      refine gf S G hP 276 0 (by decide) oM rfl inX11 (by decide) fl_RX11_9 rfl rfl dX11_meanOf_24 ?_
      refine lv_iconst (v := 0) hx hb dX11_meanOf_27 (by decide) ?_
      refine ald S G hP 277 0 (by decide) (aM277 _) (by decide) (by omega) (by decide) dX11_meanOf_28 ?_
      refine lv_icmp_ge (tgt := 56) hx hb dX11_meanOf_29 (by decide) (fun c_29 => absurd c_29 (by rw [hn]; exact nI_ge (by omega) (by omega))) (fun c_29 => ?_)
      refine lv_iload_n hx hb dX11_meanOf_32 rfl (lv_at hl 1 rfl) ?_
      refine lv_aload_n hx hb dX11_meanOf_33 rfl (lv_at hl 3 rfl) ?_
      refine lv_iload hx hb dX11_meanOf_34 (lv_at hl 0 rfl) ?_
      refine lv_iconst (v := 0) hx hb dX11_meanOf_36 (by decide) ?_
      refine cVie (As := [.int (nI k), .int (nI 0)]) S G 276 (c_X11_of l (D := D) (ct := ct) (ek := ek) (ad := ad) (N0 := N0) (X := X) (F := F) σ k (by omega) 0 (by omega)) ok_yX11_of ml_RX11_83 (by decide) oM rfl hP hS hl.1 rfl (by decide) rfl rfl (Nat.le_of_ble_eq_true rfl) ⟨Nat.zero_le _, Nat.zero_le _⟩ dX11_meanOf_37 (fun H locs hP hS => ?_)
      refine lv_aload_n hx hb dX11_meanOf_40 rfl (lv_at hl 3 rfl) ?_
      refine lv_iload_n hx hb dX11_meanOf_41 rfl (lv_at hl 4 rfl) ?_
      refine lv_iload hx hb dX11_meanOf_42 (lv_at hl 0 rfl) ?_
      refine cVie (As := [.int (nI i), .int (nI k)]) S G 276 (c_X11_weighs l (D := D) (ct := ct) (ek := ek) (ad := ad) (N0 := N0) (X := X) (F := F) σ i (by omega) k (by omega)) ok_yX11_weighs ml_RX11_91 (by decide) oM rfl hP hS hl.1 rfl (by decide) rfl rfl (Nat.le_of_ble_eq_true rfl) ⟨Nat.zero_le _, Nat.zero_le _⟩ dX11_meanOf_44 (fun H locs hP hS => ?_)
      refine lv_imul hx hb dX11_meanOf_47 ?_
      refine lv_iadd hx hb dX11_meanOf_48 ?_
      refine lv_istore_n (lv' := [(3, .int ((msR (σ 277) i k) + ((σ 277 (6 + 5 * k + 0)) * (σ 277 (36 + 6 * i + k))))), (4, .int (nI k)), (2, .int ((σ 277 (6 + 5 * i + 1)) + 1)), (0, .ref (ad 276)), (1, .int (nI i))]) hx hb dX11_meanOf_49 rfl hl (by decide) rfl (fun ls hl => ?_)
      refine lv_iinc (v := nI (k + 1)) (lv' := [(4, .int (nI (k + 1))), (3, .int ((msR (σ 277) i k) + ((σ 277 (6 + 5 * k + 0)) * (σ 277 (36 + 6 * i + k))))), (2, .int ((σ 277 (6 + 5 * i + 1)) + 1)), (0, .ref (ad 276)), (1, .int (nI i))]) hx hb dX11_meanOf_50 hl (k := 1) rfl (nI_inc _) (by decide) rfl (fun ls hl => ?_)
      refine lv_goto (tgt := 21) hx hb dX11_meanOf_53 (by decide) ?_
      exact ih (k + 1) (by omega)  _ _ _ hP hS (lv_v (lv_sub (l' := [(4, .int (nI (k + 1))), (3, .int ((msR (σ 277) i k) + ((σ 277 (6 + 5 * k + 0)) * (σ 277 (36 + 6 * i + k))))), (2, .int ((σ 277 (6 + 5 * i + 1)) + 1)), (0, .ref (ad 276)), (1, .int (nI i))]) hl [0, 1, 2, 3, 4] rfl) rfl)
  exact key_21 n 0 (by omega)  _ _ _ hP hS (lv_v (lv_sub (l' := [(4, .int 0), (3, .int ((σ 277 (6 + 5 * i + 0)) * ((σ 277 (6 + 5 * i + 1)) + 1))), (2, .int ((σ 277 (6 + 5 * i + 1)) + 1)), (0, .ref (ad 276)), (1, .int (nI i))]) hl [0, 1, 2, 3, 4] rfl) rfl)

theorem ok_yX11_stepOf : COK RX11 yX11_stepOf cX11_stepOf 3 (some .int) 1 := ⟨im_yX11_stepOf, se_RX11_yX11_stepOf, in_RX11, co_yX11_stepOf, ⟨rfl, by decide +kernel, by decide +kernel, by decide +kernel⟩, by decide⟩
set_option maxHeartbeats 1000000 in
set_option maxRecDepth 100000 in
theorem c_X11_stepOf (l : Launch) {D : va_G} {ct : Nat → ClassId} {ek ad : Nat → Nat} {N0 : Nat} {X : va_W} {F : State → Prop} (σ : Mem) (i : Nat) (hi : i < 6) : MI l yX11_stepOf cX11_stepOf 3 (some .int) 1 D ct ek ad N0 X F [.ref (ad 276), .int (nI i)] σ (fun r τ => r = stR (σ 277) i ∧ τ = σ) := by
  refine ms0 (own := RX11) (by decide) rfl (Nat.le_of_ble_eq_true rfl) (fun p e s m args below meth c S hr hlocks hnm G hP hS ls hl => ?_)
  have hx := S.1
  have hb := S.2.1
  replace hl : lv_has ls 3 [(0, .ref (ad 276)), (1, .int (nI i))] := hl
  refine lv_bipush (v := 10) hx hb dX11_stepOf_0 (by decide) ?_
  refine lv_aload_n hx hb dX11_stepOf_2 rfl (lv_at hl 0 rfl) ?_
  refine lv_iload_n hx hb dX11_stepOf_3 rfl (lv_at hl 1 rfl) ?_
  refine lv_iconst (v := 1) hx hb dX11_stepOf_4 (by decide) ?_
  refine cVie (As := [.int (nI i), .int (nI 1)]) S G 276 (c_X11_of l (D := D) (ct := ct) (ek := ek) (ad := ad) (N0 := N0) (X := X) (F := F) σ i (by omega) 1 (by omega)) ok_yX11_of ml_RX11_83 (by decide) oM rfl hP hS hl.1 rfl (by decide) rfl rfl (Nat.le_of_ble_eq_true rfl) ⟨Nat.zero_le _, Nat.zero_le _⟩ dX11_stepOf_5 (fun H locs hP hS => ?_)
  refine lv_isub hx hb dX11_stepOf_8 ?_
  refine lv_istore_n (lv' := [(2, .int (10 - (σ 277 (6 + 5 * i + 1)))), (0, .ref (ad 276)), (1, .int (nI i))]) hx hb dX11_stepOf_9 rfl hl (by decide) rfl (fun ls hl => ?_)
  refine lv_aload_n hx hb dX11_stepOf_10 rfl (lv_at hl 1 rfl) ?_
  refine lv_iload_n hx hb dX11_stepOf_11 rfl (lv_at hl 2 rfl) ?_
  refine lv_iconst (v := 2) hx hb dX11_stepOf_12 (by decide) ?_
  refine cVie (As := [.int (nI i), .int (nI 2)]) S G 276 (c_X11_of l (D := D) (ct := ct) (ek := ek) (ad := ad) (N0 := N0) (X := X) (F := F) σ i (by omega) 2 (by omega)) ok_yX11_of ml_RX11_83 (by decide) oM rfl hP hS hl.1 rfl (by decide) rfl rfl (Nat.le_of_ble_eq_true rfl) ⟨Nat.zero_le _, Nat.zero_le _⟩ dX11_stepOf_13 (fun H locs hP hS => ?_)
  refine lv_iconst (v := 1) hx hb dX11_stepOf_16 (by decide) ?_
  refine lv_icmp_ne (tgt := 26) hx hb dX11_stepOf_17 (by decide) (fun c_17 => ?_) (fun c_17 => ?_)
  · refine lv_iload_n hx hb dX11_stepOf_26 rfl (lv_at hl 0 rfl) ?_
    exact eI S hr hlocks hP hS dX11_stepOf_27 (by first | (refine ⟨?_, ?_⟩ <;> simp only [stR, c_17, ↓reduceIte, if_true, if_false, eq_self]; done) | (refine ⟨?_, rfl⟩; simp only [stR, c_17, ↓reduceIte, if_true, if_false, eq_self]; done) | exact ⟨rfl, rfl⟩ | (refine ⟨?_, rfl⟩; simp [stR, c_17]; done) | (simp [stR, c_17]; done) | grind [stR])
  · refine lv_iload_n hx hb dX11_stepOf_20 rfl (lv_at hl 0 rfl) ?_
    refine lv_iconst (v := 2) hx hb dX11_stepOf_21 (by decide) ?_
    refine lv_idiv hx hb dX11_stepOf_22 (by decide) ?_
    refine lv_goto (tgt := 27) hx hb dX11_stepOf_23 (by decide) ?_
    exact eI S hr hlocks hP hS dX11_stepOf_27 (by first | (refine ⟨?_, ?_⟩ <;> simp only [stR, c_17, ↓reduceIte, if_true, if_false, eq_self]; done) | (refine ⟨?_, rfl⟩; simp only [stR, c_17, ↓reduceIte, if_true, if_false, eq_self]; done) | exact ⟨rfl, rfl⟩ | (refine ⟨?_, rfl⟩; simp [stR, c_17]; done) | (simp [stR, c_17]; done) | grind [stR])

theorem ok_yX11_moves : COK RX11 yX11_moves cX11_moves 3 (some .int) 1 := ⟨im_yX11_moves, se_RX11_yX11_moves, in_RX11, co_yX11_moves, ⟨rfl, by decide +kernel, by decide +kernel, by decide +kernel⟩, by decide⟩
set_option maxHeartbeats 1000000 in
set_option maxRecDepth 100000 in
theorem c_X11_moves (l : Launch) {D : va_G} {ct : Nat → ClassId} {ek ad : Nat → Nat} {N0 : Nat} {X : va_W} {F : State → Prop} (σ : Mem) (i : Nat) (hi : i < 6) (n : Nat) (hn : σ 277 0 = nI n) (hn6 : n ≤ 6) (hd : ¬ σ 277 (6 + 5 * i + 1) + 1 + wtR (σ 277) n i = 0) : MI l yX11_moves cX11_moves 3 (some .int) 3 D ct ek ad N0 X F [.ref (ad 276), .int (nI i)] σ (fun r τ => r = mvR (σ 277) n i ∧ τ = σ) := by
  refine ms0 (own := RX11) (by decide) rfl (Nat.le_of_ble_eq_true rfl) (fun p e s m args below meth c S hr hlocks hnm G hP hS ls hl => ?_)
  have hx := S.1
  have hb := S.2.1
  replace hl : lv_has ls 3 [(0, .ref (ad 276)), (1, .int (nI i))] := hl
  refine lv_aload_n hx hb dX11_moves_0 rfl (lv_at hl 0 rfl) ?_
  refine lv_iload_n hx hb dX11_moves_1 rfl (lv_at hl 1 rfl) ?_
  refine cVie (As := [.int (nI i)]) S G 276 (c_X11_stepOf l (D := D) (ct := ct) (ek := ek) (ad := ad) (N0 := N0) (X := X) (F := F) σ i (by omega)) ok_yX11_stepOf ml_RX11_97 (by decide) oM rfl hP hS hl.1 rfl (by decide) rfl rfl (Nat.le_of_ble_eq_true rfl) ⟨Nat.zero_le _, Nat.zero_le _⟩ dX11_moves_2 (fun H locs hP hS => ?_)
  refine lv_istore_n (lv' := [(2, .int (stR (σ 277) i)), (0, .ref (ad 276)), (1, .int (nI i))]) hx hb dX11_moves_5 rfl hl (by decide) rfl (fun ls hl => ?_)
  refine lv_iload_n hx hb dX11_moves_6 rfl (lv_at hl 0 rfl) ?_
  refine lv_ineg hx hb dX11_moves_7 ?_
  refine lv_iload_n hx hb dX11_moves_8 rfl (lv_at hl 0 rfl) ?_
  refine lv_aload_n hx hb dX11_moves_9 rfl (lv_at hl 1 rfl) ?_
  refine lv_iload_n hx hb dX11_moves_10 rfl (lv_at hl 2 rfl) ?_
  refine cVie (As := [.int (nI i)]) S G 276 (c_X11_meanOf l (D := D) (ct := ct) (ek := ek) (ad := ad) (N0 := N0) (X := X) (F := F) σ i (by omega) n (by first | assumption | omega | (simp [sg_at]; assumption) | (simp [sg_at]; done)) (by omega) (by first | assumption | omega | (simp [sg_at]; assumption) | (simp [sg_at]; done))) ok_yX11_meanOf ml_RX11_100 (by decide) oM rfl hP hS hl.1 rfl (by decide) rfl rfl (Nat.le_of_ble_eq_true rfl) ⟨Nat.zero_le _, Nat.zero_le _⟩ dX11_moves_11 (fun H locs hP hS => ?_)
  refine lv_aload_n hx hb dX11_moves_14 rfl (lv_at hl 1 rfl) ?_
  refine lv_iload_n hx hb dX11_moves_15 rfl (lv_at hl 2 rfl) ?_
  refine lv_iconst (v := 0) hx hb dX11_moves_16 (by decide) ?_
  refine cVie (As := [.int (nI i), .int (nI 0)]) S G 276 (c_X11_of l (D := D) (ct := ct) (ek := ek) (ad := ad) (N0 := N0) (X := X) (F := F) σ i (by omega) 0 (by omega)) ok_yX11_of ml_RX11_83 (by decide) oM rfl hP hS hl.1 rfl (by decide) rfl rfl (Nat.le_of_ble_eq_true rfl) ⟨Nat.zero_le _, Nat.zero_le _⟩ dX11_moves_17 (fun H locs hP hS => ?_)
  refine lv_isub hx hb dX11_moves_20 ?_
  refine rmin S rfl (by decide) hl.1 ml_RX11_103 (Nat.le_of_ble_eq_true rfl) ⟨Nat.zero_le _, Nat.zero_le _⟩ dX11_moves_21 ?_
  refine rmax S rfl (by decide) hl.1 ml_RX11_106 (Nat.le_of_ble_eq_true rfl) ⟨Nat.zero_le _, Nat.zero_le _⟩ dX11_moves_24 ?_
  exact eI S hr hlocks hP hS dX11_moves_27 (by first | exact ⟨rfl, rfl⟩ | (refine ⟨?_, rfl⟩; simp [mvR]; done) | (simp [mvR]; done) | (simp only [mvR, ↓reduceIte, if_true, if_false, and_self, true_and]; done) | grind [mvR])

theorem ok_yX11_comes : COK RX11 yX11_comes cX11_comes 5 (some .boolean) 2 := ⟨im_yX11_comes, se_RX11_yX11_comes, in_RX11, co_yX11_comes, ⟨rfl, by decide +kernel, by decide +kernel, by decide +kernel⟩, by decide⟩
set_option maxHeartbeats 1000000 in
set_option maxRecDepth 100000 in
theorem c_X11_comes (l : Launch) {D : va_G} {ct : Nat → ClassId} {ek ad : Nat → Nat} {N0 : Nat} {X : va_W} {F : State → Prop} (σ : Mem) (x : Int32) (z : Int32) (n : Nat) (hn : σ 277 0 = nI n) (hn6 : n ≤ 6) : MI l yX11_comes cX11_comes 5 (some .boolean) 1 D ct ek ad N0 X F [.ref (ad 276), .int x, .int z] σ (fun r τ => r = comB n x ∧ τ = comM σ n x z) := by
  refine ms0 (own := RX11) (by decide) rfl (Nat.le_of_ble_eq_true rfl) (fun p e s m args below meth c S hr hlocks hnm G hP hS ls hl => ?_)
  have hx := S.1
  have hb := S.2.1
  replace hl : lv_has ls 5 [(0, .ref (ad 276)), (1, .int x), (2, .int z)] := hl
  refine lv_iload_n hx hb dX11_comes_0 rfl (lv_at hl 1 rfl) ?_
  refine lv_bipush (v := (-20)) hx hb dX11_comes_1 (by decide) ?_
  refine lv_bipush (v := 20) hx hb dX11_comes_3 (by decide) ?_
  refine cSie (As := [.int x, .int (-20), .int 20]) S G (c_X11_in l (D := D) (ct := ct) (ek := ek) (ad := ad) (N0 := N0) (X := X) (F := F) σ x (-20) 20) ok_yX11_in ml_RX11_67 hP hS hl.1 rfl (by decide) rfl rfl (Nat.le_of_ble_eq_true rfl) ⟨Nat.zero_le _, Nat.zero_le _⟩ dX11_comes_5 (fun H locs hP hS => ?_)
  refine lv_if_ne (tgt := 18) hx hb dX11_comes_8 (by decide) (fun c_8 => ?_) (fun c_8 => ?_)
  · refine lv_aload_n hx hb dX11_comes_18 rfl (lv_at hl 0 rfl) ?_
    refine gf S G hP 276 0 (by decide) oM rfl inX11 (by decide) fl_RX11_9 rfl rfl dX11_comes_19 ?_
    refine lv_iconst (v := 0) hx hb dX11_comes_22 (by decide) ?_
    refine ald S G hP 277 0 (by decide) (aM277 _) (by decide) (by omega) (by decide) dX11_comes_23 ?_
    refine lv_bipush (v := 6) hx hb dX11_comes_24 (by decide) ?_
    refine lv_icmp_ne (tgt := 37) hx hb dX11_comes_26 (by decide) (fun c_26 => ?_) (fun c_26 => ?_)
    · have h6 : ¬ n = 6 := fun h => c_26 (by rw [hn, h]; rfl)
      have hlt : n < 6 := by omega
      refine lv_aload_n hx hb dX11_comes_37 rfl (lv_at hl 0 rfl) ?_
      refine gf S G hP 276 0 (by decide) oM rfl inX11 (by decide) fl_RX11_9 rfl rfl dX11_comes_38 ?_
      refine lv_iconst (v := 0) hx hb dX11_comes_41 (by decide) ?_
      refine lv_dup2_11 hx hb dX11_comes_42 rfl rfl ?_
      refine ald S G hP 277 0 (by decide) (aM277 _) (by decide) (by omega) (by decide) dX11_comes_43 ?_
      refine lv_tope (y := nI n) hn ?_
      refine lv_dup_x2 hx hb dX11_comes_44 rfl rfl rfl ?_
      refine lv_iconst (v := 1) hx hb dX11_comes_45 (by decide) ?_
      refine nadd hx hb n 1 dX11_comes_46 rfl (by decide) ?_
      refine ast S G hP hS 277 0 (by decide) aM277 (by decide) (by omega) (by decide) dX11_comes_47 (fun H locs hP hS => ?_)
      refine lv_istore_n (lv' := [(3, .int (nI n)), (0, .ref (ad 276)), (1, .int x), (2, .int z)]) hx hb dX11_comes_48 rfl hl (by decide) rfl (fun ls hl => ?_)
      refine lv_iconst (v := 0) hx hb dX11_comes_49 (by decide) ?_
      refine lv_istore (lv' := [(4, .int 0), (3, .int (nI n)), (0, .ref (ad 276)), (1, .int x), (2, .int z)]) hx hb dX11_comes_50 hl (by decide) rfl (fun ls hl => ?_)
      have key_52 : ∀ (d k : Nat), k + d = 5 → ∀ (H : Heap) (locs : List Loc) (ls : Array Slot), wP D ct ek ad X (sb σ 277 (comR (σ 277) n k)) H → va_S (fr N0) s.heap H locs → lv_has ls 5 [(4, .int (nI k)), (3, .int (nI n)), (0, .ref (ad 276)), (1, .int x), (2, .int z)] → W p l e (rmd 1 0 0) s m args below meth c H locs 0 0 (MQ below (wQi D ct ek ad N0 X (fun r τ => r = comB n x ∧ τ = comM σ n x z)) args s 0 0 (fr N0)) (F0 m 52 ls []) := by
        intro d
        induction d with
        | zero =>
          intro k9 hk
          obtain rfl : 5 = k9 := by omega
          intro  H locs ls hP hS hl
          refine lv_iload hx hb dX11_comes_52 (lv_at hl 0 rfl) ?_
          refine lv_iconst (v := 5) hx hb dX11_comes_54 (by decide) ?_
          refine lv_icmp_ge (tgt := 72) hx hb dX11_comes_55 (by decide) (fun c_55 => ?_) (fun c_55 => absurd (by decide) c_55)
          refine lv_aload_n hx hb dX11_comes_72 rfl (lv_at hl 2 rfl) ?_
          refine lv_iload_n hx hb dX11_comes_73 rfl (lv_at hl 1 rfl) ?_
          refine lv_iconst (v := 0) hx hb dX11_comes_74 (by decide) ?_
          refine lv_iload_n hx hb dX11_comes_75 rfl (lv_at hl 3 rfl) ?_
          refine cVve (As := [.int (nI n), .int (nI 0), .int x]) S G 276 (c_X11_sets l (D := D) (ct := ct) (ek := ek) (ad := ad) (N0 := N0) (X := X) (F := F) (sb σ 277 (comR (σ 277) n 5)) n (by omega) 0 (by omega) x) ok_yX11_sets ml_RX11_109 (by decide) oM rfl hP hS hl.1 rfl (by decide) rfl rfl (Nat.le_of_ble_eq_true rfl) ⟨Nat.zero_le _, Nat.zero_le _⟩ dX11_comes_76 (fun H locs hP hS => ?_)
          refine lv_aload_n hx hb dX11_comes_79 rfl (lv_at hl 2 rfl) ?_
          refine lv_iload_n hx hb dX11_comes_80 rfl (lv_at hl 1 rfl) ?_
          refine lv_iconst (v := 2) hx hb dX11_comes_81 (by decide) ?_
          refine lv_iload_n hx hb dX11_comes_82 rfl (lv_at hl 4 rfl) ?_
          refine cVve (As := [.int (nI n), .int (nI 2), .int z]) S G 276 (c_X11_sets l (D := D) (ct := ct) (ek := ek) (ad := ad) (N0 := N0) (X := X) (F := F) (sg (sb σ 277 (comR (σ 277) n 5)) 277 (6 + 5 * n + 0) x) n (by omega) 2 (by omega) z) ok_yX11_sets ml_RX11_109 (by decide) oM rfl hP hS hl.1 rfl (by decide) rfl rfl (Nat.le_of_ble_eq_true rfl) ⟨Nat.zero_le _, Nat.zero_le _⟩ dX11_comes_83 (fun H locs hP hS => ?_)
          refine lv_aload_n hx hb dX11_comes_86 rfl (lv_at hl 2 rfl) ?_
          refine lv_iload_n hx hb dX11_comes_87 rfl (lv_at hl 1 rfl) ?_
          refine cVie (As := [.int (nI n)]) S G 276 (c_X11_does l (D := D) (ct := ct) (ek := ek) (ad := ad) (N0 := N0) (X := X) (F := F) (sg (sg (sb σ 277 (comR (σ 277) n 5)) 277 (6 + 5 * n + 0) x) 277 (6 + 5 * n + 2) z) (nI n)) ok_yX11_does ml_RX11_113 (by decide) oM rfl hP hS hl.1 rfl (by decide) rfl rfl (Nat.le_of_ble_eq_true rfl) ⟨Nat.zero_le _, Nat.zero_le _⟩ dX11_comes_88 (fun H locs hP hS => ?_)
          exact eZ S hr hlocks hP hS (by decide) dX11_comes_91 (by first | (refine ⟨?_, ?_⟩ <;> simp only [comB, comM, c_8, c_26, h6, c_55, ↓reduceIte, if_true, if_false, eq_self]; done) | (refine ⟨?_, rfl⟩; simp only [comB, comM, c_8, c_26, h6, c_55, ↓reduceIte, if_true, if_false, eq_self]; done) | exact ⟨rfl, rfl⟩ | (refine ⟨?_, rfl⟩; simp [comB, comM, c_8, c_26, h6, c_55]; done) | (simp [comB, comM, c_8, c_26, h6, c_55]; done) | grind [comB, comM])
        | succ d ih =>
          intro k hk  H locs ls hP hS hl
          have hkn : k < 5 := by omega
          refine lv_iload hx hb dX11_comes_52 (lv_at hl 0 rfl) ?_
          refine lv_iconst (v := 5) hx hb dX11_comes_54 (by decide) ?_
          refine lv_icmp_ge (tgt := 72) hx hb dX11_comes_55 (by decide) (fun c_55 => absurd c_55 (nI_ge (b := 5) (by omega) (by omega))) (fun c_55 => ?_)
          refine lv_aload_n hx hb dX11_comes_58 rfl (lv_at hl 2 rfl) ?_
          refine lv_iload_n hx hb dX11_comes_59 rfl (lv_at hl 1 rfl) ?_
          refine lv_iload hx hb dX11_comes_60 (lv_at hl 0 rfl) ?_
          refine lv_iconst (v := 0) hx hb dX11_comes_62 (by decide) ?_
          refine cVve (As := [.int (nI n), .int (nI k), .int 0]) S G 276 (c_X11_sets l (D := D) (ct := ct) (ek := ek) (ad := ad) (N0 := N0) (X := X) (F := F) (sb σ 277 (comR (σ 277) n k)) n (by omega) k (by omega) 0) ok_yX11_sets ml_RX11_109 (by decide) oM rfl hP hS hl.1 rfl (by decide) rfl rfl (Nat.le_of_ble_eq_true rfl) ⟨Nat.zero_le _, Nat.zero_le _⟩ dX11_comes_63 (fun H locs hP hS => ?_)
          refine lv_iinc (v := nI (k + 1)) (lv' := [(4, .int (nI (k + 1))), (3, .int (nI n)), (0, .ref (ad 276)), (1, .int x), (2, .int z)]) hx hb dX11_comes_66 hl (k := 0) rfl (nI_inc _) (by decide) rfl (fun ls hl => ?_)
          refine lv_goto (tgt := 52) hx hb dX11_comes_69 (by decide) ?_
          exact ih (k + 1) (by omega)  _ _ _ (wP_e hP (by rw [sg_sb]; unfold comR; rw [putR_s])) hS (by first | (refine lv_v (lv_sub (l' := [(4, .int (nI (k + 1))), (3, .int (nI n)), (0, .ref (ad 276)), (1, .int x), (2, .int z)]) hl [0, 1, 2, 3, 4] rfl) ?_; simp [fo, comB, comM, c_8, c_26, h6, c_55]; done) | exact lv_sub hl [0, 1, 2, 3, 4] rfl)
      exact key_52 5 0 (by omega)  _ _ _ (wP_e hP (by rw [sg_row]; unfold comR; rw [putR_0])) hS (lv_sub hl [0, 1, 2, 3, 4] rfl)
    · have h6 : n = 6 := by rw [hn] at c_26; exact (nI_eq (b := 6) (by omega) (by decide)).mp c_26
      refine lv_aload_n hx hb dX11_comes_29 rfl (lv_at hl 0 rfl) ?_
      refine lv_iconst (v := 2) hx hb dX11_comes_30 (by decide) ?_
      refine lv_bipush (v := 6) hx hb dX11_comes_31 (by decide) ?_
      refine cVie (As := [.int 2, .int 6]) S G 276 (c_X11_refuses l (D := D) (ct := ct) (ek := ek) (ad := ad) (N0 := N0) (X := X) (F := F) σ 2 6) ok_yX11_refuses ml_RX11_75 (by decide) oM rfl hP hS hl.1 rfl (by decide) rfl rfl (Nat.le_of_ble_eq_true rfl) ⟨Nat.zero_le _, Nat.zero_le _⟩ dX11_comes_33 (fun H locs hP hS => ?_)
      exact eZ S hr hlocks hP hS (by decide) dX11_comes_36 (by first | (refine ⟨?_, ?_⟩ <;> simp only [comB, comM, c_8, c_26, h6, ↓reduceIte, if_true, if_false, eq_self]; done) | (refine ⟨?_, rfl⟩; simp only [comB, comM, c_8, c_26, h6, ↓reduceIte, if_true, if_false, eq_self]; done) | exact ⟨rfl, rfl⟩ | (refine ⟨?_, rfl⟩; simp [comB, comM, c_8, c_26, h6]; done) | (simp [comB, comM, c_8, c_26, h6]; done) | grind [comB, comM])
  · refine lv_aload_n hx hb dX11_comes_11 rfl (lv_at hl 0 rfl) ?_
    refine lv_iconst (v := 1) hx hb dX11_comes_12 (by decide) ?_
    refine lv_iconst (v := 0) hx hb dX11_comes_13 (by decide) ?_
    refine cVie (As := [.int 1, .int 0]) S G 276 (c_X11_refuses l (D := D) (ct := ct) (ek := ek) (ad := ad) (N0 := N0) (X := X) (F := F) σ 1 0) ok_yX11_refuses ml_RX11_75 (by decide) oM rfl hP hS hl.1 rfl (by decide) rfl rfl (Nat.le_of_ble_eq_true rfl) ⟨Nat.zero_le _, Nat.zero_le _⟩ dX11_comes_14 (fun H locs hP hS => ?_)
    exact eZ S hr hlocks hP hS (by decide) dX11_comes_17 (by first | (refine ⟨?_, ?_⟩ <;> simp only [comB, comM, c_8, ↓reduceIte, if_true, if_false, eq_self]; done) | (refine ⟨?_, rfl⟩; simp only [comB, comM, c_8, ↓reduceIte, if_true, if_false, eq_self]; done) | exact ⟨rfl, rfl⟩ | (refine ⟨?_, rfl⟩; simp [comB, comM, c_8]; done) | (simp [comB, comM, c_8]; done) | grind [comB, comM])

theorem ok_yX11_person : COK RX11 yX11_person cX11_person 3 (some .int) 2 := ⟨im_yX11_person, se_RX11_yX11_person, in_RX11, co_yX11_person, ⟨rfl, by decide +kernel, by decide +kernel, by decide +kernel⟩, by decide⟩
set_option maxHeartbeats 1000000 in
set_option maxRecDepth 100000 in
theorem c_X11_person (l : Launch) {D : va_G} {ct : Nat → ClassId} {ek ad : Nat → Nat} {N0 : Nat} {X : va_W} {F : State → Prop} (σ : Mem) (x : Int32) (z : Int32) (n : Nat) (hn : σ 277 0 = nI n) (hn6 : n ≤ 6) (u : Nat) (hu : σ 276 4 = nI u) (hu8 : u ≤ 8) : MI l yX11_person cX11_person 3 (some .int) 2 D ct ek ad N0 X F [.ref (ad 276), .int x, .int z] σ (fun r τ => r = endV (comB n x) (comM (triM σ) n x (if z = 0 then 0 else 1)) ∧ τ = endM (comB n x) (comM (triM σ) n x (if z = 0 then 0 else 1)) u) := by
  refine ms0 (own := RX11) (by decide) rfl (Nat.le_of_ble_eq_true rfl) (fun p e s m args below meth c S hr hlocks hnm G hP hS ls hl => ?_)
  have hx := S.1
  have hb := S.2.1
  replace hl : lv_has ls 3 [(0, .ref (ad 276)), (1, .int x), (2, .int z)] := hl
  refine lv_aload_n hx hb dX11_person_0 rfl (lv_at hl 0 rfl) ?_
  refine cVve (As := []) S G 276 (c_X11_tries l (D := D) (ct := ct) (ek := ek) (ad := ad) (N0 := N0) (X := X) (F := F) σ) ok_yX11_tries ml_RX11_116 (by decide) oM rfl hP hS hl.1 rfl (by decide) rfl rfl (Nat.le_of_ble_eq_true rfl) ⟨Nat.zero_le _, Nat.zero_le _⟩ dX11_person_1 (fun H locs hP hS => ?_)
  refine lv_aload_n hx hb dX11_person_4 rfl (lv_at hl 0 rfl) ?_
  refine lv_aload_n hx hb dX11_person_5 rfl (lv_at hl 0 rfl) ?_
  refine lv_iload_n hx hb dX11_person_6 rfl (lv_at hl 1 rfl) ?_
  refine lv_iload_n hx hb dX11_person_7 rfl (lv_at hl 2 rfl) ?_
  have jn_8_1 : ∀ (H : Heap) (locs : List Loc) (ls : Array Slot), wP D ct ek ad X (triM σ) H → va_S (fr N0) s.heap H locs → lv_has ls 3 [(0, .ref (ad 276)), (1, .int x), (2, .int z)] → W p l e (rmd 2 0 0) s m args below meth c H locs 0 0 (MQ below (wQi D ct ek ad N0 X (fun r τ => r = endV (comB n x) (comM (triM σ) n x (if z = 0 then 0 else 1)) ∧ τ = endM (comB n x) (comM (triM σ) n x (if z = 0 then 0 else 1)) u)) args s 0 0 (fr N0)) (F0 m 16 ls [.int (if z = 0 then 0 else 1), .int x, .ref (ad 276), .ref (ad 276)]) := by
    intro H locs ls hP hS hl
    refine cVie (As := [.int x, .int (if z = 0 then 0 else 1)]) S G 276 (c_X11_comes l (D := D) (ct := ct) (ek := ek) (ad := ad) (N0 := N0) (X := X) (F := F) (triM σ) x (if z = 0 then 0 else 1) n (by rw [triM_c (by decide) (by decide)]; exact hn) (by omega)) ok_yX11_comes ml_RX11_119 (by decide) oM rfl hP hS hl.1 rfl (by decide) rfl rfl (Nat.le_of_ble_eq_true rfl) ⟨Nat.zero_le _, Nat.zero_le _⟩ dX11_person_16 (fun H locs hP hS => ?_)
    refine cVie (As := [.int (comB n x)]) S G 276 (c_X11_ends l (D := D) (ct := ct) (ek := ek) (ad := ad) (N0 := N0) (X := X) (F := F) (comM (triM σ) n x (if z = 0 then 0 else 1)) (comB n x) u (by rw [comM_k (by decide), triM_276 (by decide)]; exact hu) (by omega)) ok_yX11_ends ml_RX11_122 (by decide) oM rfl hP hS hl.1 rfl (by decide) rfl rfl (Nat.le_of_ble_eq_true rfl) ⟨Nat.zero_le _, Nat.zero_le _⟩ dX11_person_19 (fun H locs hP hS => ?_)
    exact eI S hr hlocks hP hS dX11_person_22 (by first | exact ⟨rfl, rfl⟩ | (refine ⟨?_, rfl⟩; simp []; done) | (simp []; done) | (simp only [↓reduceIte, if_true, if_false, and_self, true_and]; done) | grind [])
  refine lv_if_eq (tgt := 15) hx hb dX11_person_8 (by decide) (fun c_8 => ?_) (fun c_8 => ?_)
  · refine lv_iconst (v := 0) hx hb dX11_person_15 (by decide) ?_
    refine lv_tope (y := if z = 0 then 0 else 1) (by first | rfl | (simp [c_8]; done) | (simp only [c_8, ↓reduceIte, if_true, if_false]; done)) ?_
    exact jn_8_1 _ _ _ hP hS (lv_sub hl [0, 1, 2] rfl)
  · refine lv_iconst (v := 1) hx hb dX11_person_11 (by decide) ?_
    refine lv_goto (tgt := 16) hx hb dX11_person_12 (by decide) ?_
    refine lv_tope (y := if z = 0 then 0 else 1) (by first | rfl | (simp [c_8]; done) | (simp only [c_8, ↓reduceIte, if_true, if_false]; done)) ?_
    exact jn_8_1 _ _ _ hP hS (lv_sub hl [0, 1, 2] rfl)

theorem ok_yX11_befriends : COK RX11 yX11_befriends cX11_befriends 5 (some .boolean) 3 := ⟨im_yX11_befriends, se_RX11_yX11_befriends, in_RX11, co_yX11_befriends, ⟨rfl, by decide +kernel, by decide +kernel, by decide +kernel⟩, by decide⟩
set_option maxHeartbeats 1000000 in
set_option maxRecDepth 100000 in
theorem c_X11_befriends (l : Launch) {D : va_G} {ct : Nat → ClassId} {ek ad : Nat → Nat} {N0 : Nat} {X : va_W} {F : State → Prop} (σ : Mem) (x : Int32) (y : Int32) (w : Int32) (n : Nat) (hn : σ 277 0 = nI n) (hn6 : n ≤ 6) : MI l yX11_befriends cX11_befriends 5 (some .boolean) 3 D ct ek ad N0 X F [.ref (ad 276), .int x, .int y, .int w] σ (fun r τ => r = befB σ x y w ∧ τ = befM σ x y w) := by
  refine ms0 (own := RX11) (by decide) rfl (Nat.le_of_ble_eq_true rfl) (fun p e s m args below meth c S hr hlocks hnm G hP hS ls hl => ?_)
  have hx := S.1
  have hb := S.2.1
  replace hl : lv_has ls 5 [(0, .ref (ad 276)), (1, .int x), (2, .int y), (3, .int w)] := hl
  refine lv_aload_n hx hb dX11_befriends_0 rfl (lv_at hl 0 rfl) ?_
  refine lv_iload_n hx hb dX11_befriends_1 rfl (lv_at hl 1 rfl) ?_
  refine cVie (As := [.int x]) S G 276 (c_X11_isThere l (D := D) (ct := ct) (ek := ek) (ad := ad) (N0 := N0) (X := X) (F := F) σ x) ok_yX11_isThere ml_RX11_126 (by decide) oM rfl hP hS hl.1 rfl (by decide) rfl rfl (Nat.le_of_ble_eq_true rfl) ⟨Nat.zero_le _, Nat.zero_le _⟩ dX11_befriends_2 (fun H locs hP hS => ?_)
  refine lv_if_eq (tgt := 16) hx hb dX11_befriends_5 (by decide) (fun c_5 => ?_) (fun c_5 => ?_)
  · refine lv_iconst (v := 0) hx hb dX11_befriends_16 (by decide) ?_
    exact eZ S hr hlocks hP hS (by decide) dX11_befriends_17 (by first | (refine ⟨?_, ?_⟩ <;> simp only [befB, befM, c_5, ↓reduceIte, if_true, if_false, eq_self]; done) | (refine ⟨?_, rfl⟩; simp only [befB, befM, c_5, ↓reduceIte, if_true, if_false, eq_self]; done) | exact ⟨rfl, rfl⟩ | (refine ⟨?_, rfl⟩; simp [befB, befM, c_5]; done) | (simp [befB, befM, c_5]; done) | grind [befB, befM])
  · rw [tcM_1 c_5] at hP
    refine lv_aload_n hx hb dX11_befriends_8 rfl (lv_at hl 0 rfl) ?_
    refine lv_iload_n hx hb dX11_befriends_9 rfl (lv_at hl 2 rfl) ?_
    refine cVie (As := [.int y]) S G 276 (c_X11_isThere l (D := D) (ct := ct) (ek := ek) (ad := ad) (N0 := N0) (X := X) (F := F) σ y) ok_yX11_isThere ml_RX11_126 (by decide) oM rfl hP hS hl.1 rfl (by decide) rfl rfl (Nat.le_of_ble_eq_true rfl) ⟨Nat.zero_le _, Nat.zero_le _⟩ dX11_befriends_10 (fun H locs hP hS => ?_)
    refine lv_if_ne (tgt := 18) hx hb dX11_befriends_13 (by decide) (fun c_13 => ?_) (fun c_13 => ?_)
    · rw [tcM_1 c_13] at hP
      refine lv_iload_n hx hb dX11_befriends_18 rfl (lv_at hl 1 rfl) ?_
      refine lv_iload_n hx hb dX11_befriends_19 rfl (lv_at hl 2 rfl) ?_
      refine lv_icmp_ne (tgt := 30) hx hb dX11_befriends_20 (by decide) (fun c_20 => ?_) (fun c_20 => ?_)
      · refine lv_iload_n hx hb dX11_befriends_30 rfl (lv_at hl 3 rfl) ?_
        refine lv_iconst (v := 0) hx hb dX11_befriends_31 (by decide) ?_
        refine lv_bipush (v := 9) hx hb dX11_befriends_32 (by decide) ?_
        refine cSie (As := [.int w, .int 0, .int 9]) S G (c_X11_in l (D := D) (ct := ct) (ek := ek) (ad := ad) (N0 := N0) (X := X) (F := F) σ w 0 9) ok_yX11_in ml_RX11_67 hP hS hl.1 rfl (by decide) rfl rfl (Nat.le_of_ble_eq_true rfl) ⟨Nat.zero_le _, Nat.zero_le _⟩ dX11_befriends_34 (fun H locs hP hS => ?_)
        refine lv_if_ne (tgt := 47) hx hb dX11_befriends_37 (by decide) (fun c_37 => ?_) (fun c_37 => ?_)
        · obtain ⟨h1, h1l⟩ := tcB_N c_5 hn hn6
          obtain ⟨h2, h2l⟩ := tcB_N c_13 hn hn6
          refine lv_aload_n hx hb dX11_befriends_47 rfl (lv_at hl 0 rfl) ?_
          refine lv_iload_n hx hb dX11_befriends_48 rfl (lv_at hl 1 rfl) ?_
          refine lv_tope (y := nI (tN (x))) h1 ?_
          refine lv_iload_n hx hb dX11_befriends_49 rfl (lv_at hl 2 rfl) ?_
          refine lv_tope (y := nI (tN (y))) h2 ?_
          refine cVie (As := [.int (nI (tN (x))), .int (nI (tN (y)))]) S G 276 (c_X11_weighs l (D := D) (ct := ct) (ek := ek) (ad := ad) (N0 := N0) (X := X) (F := F) σ (tN (x)) (by omega) (tN (y)) (by omega)) ok_yX11_weighs ml_RX11_91 (by decide) oM rfl hP hS hl.1 rfl (by decide) rfl rfl (Nat.le_of_ble_eq_true rfl) ⟨Nat.zero_le _, Nat.zero_le _⟩ dX11_befriends_50 (fun H locs hP hS => ?_)
          refine lv_istore (lv' := [(4, .int (σ 277 (36 + 6 * (tN (x)) + (tN (y))))), (0, .ref (ad 276)), (1, .int x), (2, .int y), (3, .int w)]) hx hb dX11_befriends_53 hl (by decide) rfl (fun ls hl => ?_)
          refine lv_iload hx hb dX11_befriends_55 (lv_at hl 0 rfl) ?_
          refine lv_iload_n hx hb dX11_befriends_57 rfl (lv_at hl 4 rfl) ?_
          refine lv_icmp_ne (tgt := 68) hx hb dX11_befriends_58 (by decide) (fun c_58 => ?_) (fun c_58 => ?_)
          · refine lv_aload_n hx hb dX11_befriends_68 rfl (lv_at hl 1 rfl) ?_
            refine gf S G hP 276 0 (by decide) oM rfl inX11 (by decide) fl_RX11_9 rfl rfl dX11_befriends_69 ?_
            refine lv_bipush (v := 36) hx hb dX11_befriends_72 (by decide) ?_
            refine lv_bipush (v := 6) hx hb dX11_befriends_74 (by decide) ?_
            refine lv_iload_n hx hb dX11_befriends_76 rfl (lv_at hl 2 rfl) ?_
            refine lv_tope (y := nI (tN (x))) h1 ?_
            refine nmul hx hb 6 (tN (x)) dX11_befriends_77 (by decide) rfl ?_
            refine nadd hx hb 36 (6 * (tN (x))) dX11_befriends_78 (by decide) rfl ?_
            refine lv_iload_n hx hb dX11_befriends_79 rfl (lv_at hl 3 rfl) ?_
            refine lv_tope (y := nI (tN (y))) h2 ?_
            refine nadd hx hb (36 + (6 * (tN (x)))) (tN (y)) dX11_befriends_80 rfl rfl ?_
            refine lv_iload_n hx hb dX11_befriends_81 rfl (lv_at hl 4 rfl) ?_
            refine ast S G hP hS 277 ((36 + (6 * (tN (x)))) + (tN (y))) (by decide) aM277 rfl (by omega) (by decide) dX11_befriends_82 (fun H locs hP hS => ?_)
            refine lv_aload_n hx hb dX11_befriends_83 rfl (lv_at hl 1 rfl) ?_
            refine gf S G hP 276 0 (by decide) oM rfl inX11 (by decide) fl_RX11_9 rfl rfl dX11_befriends_84 ?_
            refine lv_bipush (v := 36) hx hb dX11_befriends_87 (by decide) ?_
            refine lv_bipush (v := 6) hx hb dX11_befriends_89 (by decide) ?_
            refine lv_iload_n hx hb dX11_befriends_91 rfl (lv_at hl 3 rfl) ?_
            refine lv_tope (y := nI (tN (y))) h2 ?_
            refine nmul hx hb 6 (tN (y)) dX11_befriends_92 (by decide) rfl ?_
            refine nadd hx hb 36 (6 * (tN (y))) dX11_befriends_93 (by decide) rfl ?_
            refine lv_iload_n hx hb dX11_befriends_94 rfl (lv_at hl 2 rfl) ?_
            refine lv_tope (y := nI (tN (x))) h1 ?_
            refine nadd hx hb (36 + (6 * (tN (y)))) (tN (x)) dX11_befriends_95 rfl rfl ?_
            refine lv_iload_n hx hb dX11_befriends_96 rfl (lv_at hl 4 rfl) ?_
            refine ast S G hP hS 277 ((36 + (6 * (tN (y)))) + (tN (x))) (by decide) aM277 rfl (by omega) (by decide) dX11_befriends_97 (fun H locs hP hS => ?_)
            refine lv_aload_n hx hb dX11_befriends_98 rfl (lv_at hl 1 rfl) ?_
            refine lv_iload hx hb dX11_befriends_99 (lv_at hl 0 rfl) ?_
            refine cVie (As := [.int (σ 277 (36 + 6 * (tN (x)) + (tN (y))))]) S G 276 (c_X11_does l (D := D) (ct := ct) (ek := ek) (ad := ad) (N0 := N0) (X := X) (F := F) (sg (sg σ 277 ((36 + (6 * (tN (x)))) + (tN (y))) w) 277 ((36 + (6 * (tN (y)))) + (tN (x))) w) (σ 277 (36 + 6 * (tN (x)) + (tN (y))))) ok_yX11_does ml_RX11_113 (by decide) oM rfl hP hS hl.1 rfl (by decide) rfl rfl (Nat.le_of_ble_eq_true rfl) ⟨Nat.zero_le _, Nat.zero_le _⟩ dX11_befriends_101 (fun H locs hP hS => ?_)
            exact eZ S hr hlocks hP hS (by decide) dX11_befriends_104 (by first | (refine ⟨?_, ?_⟩ <;> simp only [befB, befM, c_5, c_13, c_20, c_37, c_58, ↓reduceIte, if_true, if_false, eq_self]; done) | (refine ⟨?_, rfl⟩; simp only [befB, befM, c_5, c_13, c_20, c_37, c_58, ↓reduceIte, if_true, if_false, eq_self]; done) | exact ⟨rfl, rfl⟩ | (refine ⟨?_, rfl⟩; simp [befB, befM, c_5, c_13, c_20, c_37, c_58]; done) | (simp [befB, befM, c_5, c_13, c_20, c_37, c_58]; done) | grind [befB, befM])
          · refine lv_aload_n hx hb dX11_befriends_61 rfl (lv_at hl 1 rfl) ?_
            refine lv_iconst (v := 5) hx hb dX11_befriends_62 (by decide) ?_
            refine lv_iload_n hx hb dX11_befriends_63 rfl (lv_at hl 4 rfl) ?_
            refine cVie (As := [.int 5, .int w]) S G 276 (c_X11_refuses l (D := D) (ct := ct) (ek := ek) (ad := ad) (N0 := N0) (X := X) (F := F) σ 5 w) ok_yX11_refuses ml_RX11_75 (by decide) oM rfl hP hS hl.1 rfl (by decide) rfl rfl (Nat.le_of_ble_eq_true rfl) ⟨Nat.zero_le _, Nat.zero_le _⟩ dX11_befriends_64 (fun H locs hP hS => ?_)
            exact eZ S hr hlocks hP hS (by decide) dX11_befriends_67 (by first | (refine ⟨?_, ?_⟩ <;> simp only [befB, befM, c_5, c_13, c_20, c_37, c_58, ↓reduceIte, if_true, if_false, eq_self]; done) | (refine ⟨?_, rfl⟩; simp only [befB, befM, c_5, c_13, c_20, c_37, c_58, ↓reduceIte, if_true, if_false, eq_self]; done) | exact ⟨rfl, rfl⟩ | (refine ⟨?_, rfl⟩; simp [befB, befM, c_5, c_13, c_20, c_37, c_58]; done) | (simp [befB, befM, c_5, c_13, c_20, c_37, c_58]; done) | grind [befB, befM])
        · refine lv_aload_n hx hb dX11_befriends_40 rfl (lv_at hl 0 rfl) ?_
          refine lv_iconst (v := 1) hx hb dX11_befriends_41 (by decide) ?_
          refine lv_iconst (v := 0) hx hb dX11_befriends_42 (by decide) ?_
          refine cVie (As := [.int 1, .int 0]) S G 276 (c_X11_refuses l (D := D) (ct := ct) (ek := ek) (ad := ad) (N0 := N0) (X := X) (F := F) σ 1 0) ok_yX11_refuses ml_RX11_75 (by decide) oM rfl hP hS hl.1 rfl (by decide) rfl rfl (Nat.le_of_ble_eq_true rfl) ⟨Nat.zero_le _, Nat.zero_le _⟩ dX11_befriends_43 (fun H locs hP hS => ?_)
          exact eZ S hr hlocks hP hS (by decide) dX11_befriends_46 (by first | (refine ⟨?_, ?_⟩ <;> simp only [befB, befM, c_5, c_13, c_20, c_37, ↓reduceIte, if_true, if_false, eq_self]; done) | (refine ⟨?_, rfl⟩; simp only [befB, befM, c_5, c_13, c_20, c_37, ↓reduceIte, if_true, if_false, eq_self]; done) | exact ⟨rfl, rfl⟩ | (refine ⟨?_, rfl⟩; simp [befB, befM, c_5, c_13, c_20, c_37]; done) | (simp [befB, befM, c_5, c_13, c_20, c_37]; done) | grind [befB, befM])
      · refine lv_aload_n hx hb dX11_befriends_23 rfl (lv_at hl 0 rfl) ?_
        refine lv_iconst (v := 4) hx hb dX11_befriends_24 (by decide) ?_
        refine lv_iload_n hx hb dX11_befriends_25 rfl (lv_at hl 1 rfl) ?_
        refine cVie (As := [.int 4, .int x]) S G 276 (c_X11_refuses l (D := D) (ct := ct) (ek := ek) (ad := ad) (N0 := N0) (X := X) (F := F) σ 4 x) ok_yX11_refuses ml_RX11_75 (by decide) oM rfl hP hS hl.1 rfl (by decide) rfl rfl (Nat.le_of_ble_eq_true rfl) ⟨Nat.zero_le _, Nat.zero_le _⟩ dX11_befriends_26 (fun H locs hP hS => ?_)
        exact eZ S hr hlocks hP hS (by decide) dX11_befriends_29 (by first | (refine ⟨?_, ?_⟩ <;> simp only [befB, befM, c_5, c_13, c_20, ↓reduceIte, if_true, if_false, eq_self]; done) | (refine ⟨?_, rfl⟩; simp only [befB, befM, c_5, c_13, c_20, ↓reduceIte, if_true, if_false, eq_self]; done) | exact ⟨rfl, rfl⟩ | (refine ⟨?_, rfl⟩; simp [befB, befM, c_5, c_13, c_20]; done) | (simp [befB, befM, c_5, c_13, c_20]; done) | grind [befB, befM])
    · refine lv_iconst (v := 0) hx hb dX11_befriends_16 (by decide) ?_
      exact eZ S hr hlocks hP hS (by decide) dX11_befriends_17 (by first | (refine ⟨?_, ?_⟩ <;> simp only [befB, befM, c_5, c_13, ↓reduceIte, if_true, if_false, eq_self]; done) | (refine ⟨?_, rfl⟩; simp only [befB, befM, c_5, c_13, ↓reduceIte, if_true, if_false, eq_self]; done) | exact ⟨rfl, rfl⟩ | (refine ⟨?_, rfl⟩; simp [befB, befM, c_5, c_13]; done) | (simp [befB, befM, c_5, c_13]; done) | grind [befB, befM])

theorem ok_yX11_friends : COK RX11 yX11_friends cX11_friends 4 (some .int) 3 := ⟨im_yX11_friends, se_RX11_yX11_friends, in_RX11, co_yX11_friends, ⟨rfl, by decide +kernel, by decide +kernel, by decide +kernel⟩, by decide⟩
set_option maxHeartbeats 1000000 in
set_option maxRecDepth 100000 in
theorem c_X11_friends (l : Launch) {D : va_G} {ct : Nat → ClassId} {ek ad : Nat → Nat} {N0 : Nat} {X : va_W} {F : State → Prop} (σ : Mem) (x : Int32) (y : Int32) (w : Int32) (n : Nat) (hn : σ 277 0 = nI n) (hn6 : n ≤ 6) (u : Nat) (hu : σ 276 4 = nI u) (hu8 : u ≤ 8) : MI l yX11_friends cX11_friends 4 (some .int) 4 D ct ek ad N0 X F [.ref (ad 276), .int x, .int y, .int w] σ (fun r τ => r = endV (befB (triM σ) x y w) (befM (triM σ) x y w) ∧ τ = endM (befB (triM σ) x y w) (befM (triM σ) x y w) u) := by
  refine ms0 (own := RX11) (by decide) rfl (Nat.le_of_ble_eq_true rfl) (fun p e s m args below meth c S hr hlocks hnm G hP hS ls hl => ?_)
  have hx := S.1
  have hb := S.2.1
  replace hl : lv_has ls 4 [(0, .ref (ad 276)), (1, .int x), (2, .int y), (3, .int w)] := hl
  refine lv_aload_n hx hb dX11_friends_0 rfl (lv_at hl 0 rfl) ?_
  refine cVve (As := []) S G 276 (c_X11_tries l (D := D) (ct := ct) (ek := ek) (ad := ad) (N0 := N0) (X := X) (F := F) σ) ok_yX11_tries ml_RX11_116 (by decide) oM rfl hP hS hl.1 rfl (by decide) rfl rfl (Nat.le_of_ble_eq_true rfl) ⟨Nat.zero_le _, Nat.zero_le _⟩ dX11_friends_1 (fun H locs hP hS => ?_)
  refine lv_aload_n hx hb dX11_friends_4 rfl (lv_at hl 0 rfl) ?_
  refine lv_aload_n hx hb dX11_friends_5 rfl (lv_at hl 0 rfl) ?_
  refine lv_iload_n hx hb dX11_friends_6 rfl (lv_at hl 1 rfl) ?_
  refine lv_iload_n hx hb dX11_friends_7 rfl (lv_at hl 2 rfl) ?_
  refine lv_iload_n hx hb dX11_friends_8 rfl (lv_at hl 3 rfl) ?_
  refine cVie (As := [.int x, .int y, .int w]) S G 276 (c_X11_befriends l (D := D) (ct := ct) (ek := ek) (ad := ad) (N0 := N0) (X := X) (F := F) (triM σ) x y w n (by rw [triM_c (by decide) (by decide)]; exact hn) (by omega)) ok_yX11_befriends ml_RX11_129 (by decide) oM rfl hP hS hl.1 rfl (by decide) rfl rfl (Nat.le_of_ble_eq_true rfl) ⟨Nat.zero_le _, Nat.zero_le _⟩ dX11_friends_9 (fun H locs hP hS => ?_)
  refine cVie (As := [.int (befB (triM σ) x y w)]) S G 276 (c_X11_ends l (D := D) (ct := ct) (ek := ek) (ad := ad) (N0 := N0) (X := X) (F := F) (befM (triM σ) x y w) (befB (triM σ) x y w) u (by rw [befM_k (by decide), triM_276 (by decide)]; exact hu) (by omega)) ok_yX11_ends ml_RX11_122 (by decide) oM rfl hP hS hl.1 rfl (by decide) rfl rfl (Nat.le_of_ble_eq_true rfl) ⟨Nat.zero_le _, Nat.zero_le _⟩ dX11_friends_12 (fun H locs hP hS => ?_)
  exact eI S hr hlocks hP hS dX11_friends_15 (by first | exact ⟨rfl, rfl⟩ | (refine ⟨?_, rfl⟩; simp []; done) | (simp []; done) | (simp only [↓reduceIte, if_true, if_false, and_self, true_and]; done) | grind [])

theorem ok_yX11_drops : COK RX11 yX11_drops cX11_drops 3 none 1 := ⟨im_yX11_drops, se_RX11_yX11_drops, in_RX11, co_yX11_drops, ⟨rfl, by decide +kernel, by decide +kernel, by decide +kernel⟩, by decide⟩
set_option maxHeartbeats 1000000 in
set_option maxRecDepth 100000 in
theorem c_X11_drops (l : Launch) {D : va_G} {ct : Nat → ClassId} {ek ad : Nat → Nat} {N0 : Nat} {X : va_W} {F : State → Prop} (σ : Mem) (i : Nat) (hi : i < 6) (mb : Nat) (hm : σ 277 1 = nI mb) (hm6 : mb ≤ 6) (hi2 : i < mb) : MV l yX11_drops cX11_drops 3 0 D ct ek ad N0 X F [.ref (ad 276), .int (nI i)] σ (fun τ => τ = sb σ 277 (drpR (σ 277) i mb)) := by
  refine ms0 (own := RX11) (by decide) rfl (Nat.le_of_ble_eq_true rfl) (fun p e s m args below meth c S hr hlocks hnm G hP hS ls hl => ?_)
  have hx := S.1
  have hb := S.2.1
  replace hl : lv_has ls 3 [(0, .ref (ad 276)), (1, .int (nI i))] := hl
  refine lv_aload_n hx hb dX11_drops_0 rfl (lv_at hl 0 rfl) ?_
  refine gf S G hP 276 0 (by decide) oM rfl inX11 (by decide) fl_RX11_9 rfl rfl dX11_drops_1 ?_
  refine lv_iconst (v := 1) hx hb dX11_drops_4 (by decide) ?_
  refine lv_dup2_11 hx hb dX11_drops_5 rfl rfl ?_
  refine ald S G hP 277 1 (by decide) (aM277 _) (by decide) (by omega) (by decide) dX11_drops_6 ?_
  refine lv_tope (y := nI mb) hm ?_
  refine lv_iconst (v := 1) hx hb dX11_drops_7 (by decide) ?_
  refine nsub hx hb mb 1 dX11_drops_8 rfl (by decide) (by omega) ?_
  refine ast S G hP hS 277 1 (by decide) aM277 (by decide) (by omega) (by decide) dX11_drops_9 (fun H locs hP hS => ?_)
  refine lv_bipush (v := 72) hx hb dX11_drops_10 (by decide) ?_
  refine lv_iconst (v := 4) hx hb dX11_drops_12 (by decide) ?_
  refine lv_iload_n hx hb dX11_drops_13 rfl (lv_at hl 1 rfl) ?_
  refine nmul hx hb 4 i dX11_drops_14 (by decide) rfl ?_
  refine nadd hx hb 72 (4 * i) dX11_drops_15 (by decide) rfl ?_
  refine lv_istore_n (lv' := [(2, .int (nI (72 + (4 * i)))), (0, .ref (ad 276)), (1, .int (nI i))]) hx hb dX11_drops_16 rfl hl (by decide) rfl (fun ls hl => ?_)
  have key_17 : ∀ (d k : Nat), k + d = 72 + 4 * (mb - 1) → (72 + 4 * i ≤ k) → ∀ (H : Heap) (locs : List Loc) (ls : Array Slot), wP D ct ek ad X (sb σ 277 (shR (upd (σ 277) 1 (nI (mb - 1))) i k)) H → va_S (fr N0) s.heap H locs → lv_has ls 3 [(2, .int (nI k)), (0, .ref (ad 276)), (1, .int (nI i))] → W p l e (rmd 0 0 0) s m args below meth c H locs 0 0 (MQ below (wQv D ct ek ad N0 X (fun τ => τ = sb σ 277 (drpR (σ 277) i mb))) args s 0 0 (fr N0)) (F0 m 17 ls []) := by
    intro d
    induction d with
    | zero =>
      intro k9 hk
      obtain rfl : 72 + 4 * (mb - 1) = k9 := by omega
      intro hik H locs ls hP hS hl
      refine lv_iload_n hx hb dX11_drops_17 rfl (lv_at hl 0 rfl) ?_
      refine lv_bipush (v := 72) hx hb dX11_drops_18 (by decide) ?_
      refine lv_iconst (v := 4) hx hb dX11_drops_20 (by decide) ?_
      refine lv_aload_n hx hb dX11_drops_21 rfl (lv_at hl 1 rfl) ?_
      refine gf S G hP 276 0 (by decide) oM rfl inX11 (by decide) fl_RX11_9 rfl rfl dX11_drops_22 ?_
      refine lv_iconst (v := 1) hx hb dX11_drops_25 (by decide) ?_
      refine ald S G hP 277 1 (by decide) (aM277 _) (by decide) (by omega) (by decide) dX11_drops_26 ?_
      refine lv_tope (y := nI (mb - 1)) (by first | rw [sg_ss] | (rw [sb_s]; unfold shR; rw [if_neg (by omega)]; exact if_pos rfl)) ?_
      refine nmul hx hb 4 (mb - 1) dX11_drops_27 (by decide) rfl ?_
      refine nadd hx hb 72 (4 * (mb - 1)) dX11_drops_28 (by decide) rfl ?_
      refine lv_icmp_ge (tgt := 52) hx hb dX11_drops_29 (by decide) (fun c_29 => ?_) (fun c_29 => absurd (nI_le (by omega) (by omega)) c_29)
      exact eV S hr hlocks hP hS dX11_drops_52 (by first | rfl | (simp [c_29]; done) | (simp only [c_29, ↓reduceIte, if_true, if_false]; done) | grind [])
    | succ d ih =>
      intro k hk hik H locs ls hP hS hl
      have hkn : k < 72 + 4 * (mb - 1) := by omega
      refine lv_iload_n hx hb dX11_drops_17 rfl (lv_at hl 0 rfl) ?_
      refine lv_bipush (v := 72) hx hb dX11_drops_18 (by decide) ?_
      refine lv_iconst (v := 4) hx hb dX11_drops_20 (by decide) ?_
      refine lv_aload_n hx hb dX11_drops_21 rfl (lv_at hl 1 rfl) ?_
      refine gf S G hP 276 0 (by decide) oM rfl inX11 (by decide) fl_RX11_9 rfl rfl dX11_drops_22 ?_
      refine lv_iconst (v := 1) hx hb dX11_drops_25 (by decide) ?_
      refine ald S G hP 277 1 (by decide) (aM277 _) (by decide) (by omega) (by decide) dX11_drops_26 ?_
      refine lv_tope (y := nI (mb - 1)) (by first | rw [sg_ss] | (rw [sb_s]; unfold shR; rw [if_neg (by omega)]; exact if_pos rfl)) ?_
      refine nmul hx hb 4 (mb - 1) dX11_drops_27 (by decide) rfl ?_
      refine nadd hx hb 72 (4 * (mb - 1)) dX11_drops_28 (by decide) rfl ?_
      refine lv_icmp_ge (tgt := 52) hx hb dX11_drops_29 (by decide) (fun c_29 => absurd c_29 (nI_ge (by omega) (by omega))) (fun c_29 => ?_)
      refine lv_aload_n hx hb dX11_drops_32 rfl (lv_at hl 1 rfl) ?_
      refine gf S G hP 276 0 (by decide) oM rfl inX11 (by decide) fl_RX11_9 rfl rfl dX11_drops_33 ?_
      refine lv_iload_n hx hb dX11_drops_36 rfl (lv_at hl 0 rfl) ?_
      refine lv_aload_n hx hb dX11_drops_37 rfl (lv_at hl 1 rfl) ?_
      refine gf S G hP 276 0 (by decide) oM rfl inX11 (by decide) fl_RX11_9 rfl rfl dX11_drops_38 ?_
      refine lv_iload_n hx hb dX11_drops_41 rfl (lv_at hl 0 rfl) ?_
      refine lv_iconst (v := 4) hx hb dX11_drops_42 (by decide) ?_
      refine nadd hx hb k 4 dX11_drops_43 rfl (by decide) ?_
      refine ald S G hP 277 (k + 4) (by decide) (aM277 _) rfl (by omega) (by decide) dX11_drops_44 ?_
      refine lv_tope (y := upd (σ 277) 1 (nI (mb - 1)) (k + 4)) (by rw [sb_s]; unfold shR; rw [if_neg (by omega)]) ?_
      refine ast S G hP hS 277 k (by decide) aM277 rfl (by omega) (by decide) dX11_drops_45 (fun H locs hP hS => ?_)
      refine lv_iinc (v := nI (k + 1)) (lv' := [(2, .int (nI (k + 1))), (0, .ref (ad 276)), (1, .int (nI i))]) hx hb dX11_drops_46 hl (k := 0) rfl (nI_inc _) (by decide) rfl (fun ls hl => ?_)
      refine lv_goto (tgt := 17) hx hb dX11_drops_49 (by decide) ?_
      exact ih (k + 1) (by omega) (by omega) _ _ _ (wP_e hP (by rw [sg_sb, shR_s hik])) hS (by first | exact lv_sub hl [0, 1, 2] rfl | (refine lv_v (lv_sub (l' := [(2, .int (nI (k + 1))), (0, .ref (ad 276)), (1, .int (nI i))]) hl [0, 1, 2] rfl) ?_; simp [fo, c_29]; done))
  exact key_17 (72 + 4 * (mb - 1) - (72 + 4 * i)) (72 + 4 * i) (by omega) (by omega) _ _ _ (wP_e hP (by rw [sg_row, shR_0])) hS (lv_sub hl [0, 1, 2] rfl)

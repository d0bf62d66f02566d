/-! the reference: more questions (laid by wip/whole/spec_model6.py) -/
theorem ok_yX11_campOf : COK RX11 yX11_campOf cX11_campOf 6 (some .int) 1 := ⟨im_yX11_campOf, se_RX11_yX11_campOf, in_RX11, co_yX11_campOf, ⟨rfl, by decide +kernel, by decide +kernel, by decide +kernel⟩, by decide⟩
set_option maxHeartbeats 1000000 in
set_option maxRecDepth 100000 in
theorem c_X11_campOf (l : Launch) {D : va_G} {ct : Nat → ClassId} {ek ad : Nat → Nat} {N0 : Nat} {X : va_W} {F : State → Prop} (σ : Mem) (i : Nat) (hi : i < 6) (n : Nat) (hn : σ 277 0 = nI n) (hn6 : n ≤ 6) : MI l yX11_campOf cX11_campOf 6 (some .int) 2 D ct ek ad N0 X F [.ref (ad 276), .int (nI i)] σ (fun r τ => r = cmR (σ 277) n i ∧ τ = σ) := by
  refine ms0 (own := RX11) (by decide) rfl (Nat.le_of_ble_eq_true rfl) (fun p e s m args below meth c S hr hlocks hnm G hP hS ls hl => ?_)
  have hx := S.1
  have hb := S.2.1
  replace hl : lv_has ls 6 [(0, .ref (ad 276)), (1, .int (nI i))] := hl
  refine lv_aload_n hx hb dX11_campOf_0 rfl (lv_at hl 0 rfl) ?_
  refine lv_iload_n hx hb dX11_campOf_1 rfl (lv_at hl 1 rfl) ?_
  refine cVie (As := [.int (nI i)]) S G 276 (c_X11_side l (D := D) (ct := ct) (ek := ek) (ad := ad) (N0 := N0) (X := X) (F := F) σ i (by omega)) ok_yX11_side ml_RX11_173 (by decide) oM rfl hP hS hl.1 rfl (by decide) rfl rfl (Nat.le_of_ble_eq_true rfl) ⟨Nat.zero_le _, Nat.zero_le _⟩ dX11_campOf_2 (fun H locs hP hS => ?_)
  refine lv_if_ne (tgt := 10) hx hb dX11_campOf_5 (by decide) (fun c_5 => ?_) (fun c_5 => ?_)
  · refine lv_iconst (v := 1) hx hb dX11_campOf_10 (by decide) ?_
    refine lv_iload_n hx hb dX11_campOf_11 rfl (lv_at hl 1 rfl) ?_
    refine lv_ishl hx hb dX11_campOf_12 ?_
    refine lv_istore_n (lv' := [(2, .int (1 <<< ((nI i) &&& 31))), (0, .ref (ad 276)), (1, .int (nI i))]) hx hb dX11_campOf_13 rfl hl (by decide) rfl (fun ls hl => ?_)
    refine lv_iconst (v := 0) hx hb dX11_campOf_14 (by decide) ?_
    refine lv_istore_n (lv' := [(3, .int 0), (2, .int (1 <<< ((nI i) &&& 31))), (0, .ref (ad 276)), (1, .int (nI i))]) hx hb dX11_campOf_15 rfl hl (by decide) rfl (fun ls hl => ?_)
    have key_16 : ∀ (d k : Nat), k + d = 6 → ∀ (H : Heap) (locs : List Loc) (ls : Array Slot), wP D ct ek ad X σ H → va_S (fr N0) s.heap H locs → lv_has ls 6 [(3, .int (nI k)), (2, .int (cmK (σ 277) n i k)), (0, .ref (ad 276)), (1, .int (nI i))] → W p l e (rmd 2 0 0) s m args below meth c H locs 0 0 (MQ below (wQi D ct ek ad N0 X (fun r τ => r = cmR (σ 277) n i ∧ τ = σ)) args s 0 0 (fr N0)) (F0 m 16 ls []) := by
      intro d
      induction d with
      | zero =>
        intro k9 hk
        obtain rfl : 6 = k9 := by omega
        intro  H locs ls hP hS hl
        refine lv_iload_n hx hb dX11_campOf_16 rfl (lv_at hl 0 rfl) ?_
        refine lv_bipush (v := 6) hx hb dX11_campOf_17 (by decide) ?_
        refine lv_icmp_ge (tgt := 112) hx hb dX11_campOf_19 (by decide) (fun c_19 => ?_) (fun c_19 => absurd (by decide) c_19)
        refine lv_iload_n hx hb dX11_campOf_112 rfl (lv_at hl 1 rfl) ?_
        exact eI S hr hlocks hP hS dX11_campOf_113 (by first | (refine ⟨?_, ?_⟩ <;> simp only [cmR, c_5, c_19, ↓reduceIte, if_true, if_false, eq_self]; done) | (refine ⟨?_, rfl⟩; simp only [cmR, c_5, c_19, ↓reduceIte, if_true, if_false, eq_self]; done) | exact ⟨rfl, rfl⟩ | (refine ⟨?_, rfl⟩; simp [cmR, c_5, c_19]; done) | (simp [cmR, c_5, c_19]; done) | grind [cmR])
      | succ d ih =>
        intro k hk  H locs ls hP hS hl
        have hkn : k < 6 := by omega
        refine lv_iload_n hx hb dX11_campOf_16 rfl (lv_at hl 0 rfl) ?_
        refine lv_bipush (v := 6) hx hb dX11_campOf_17 (by decide) ?_
        refine lv_icmp_ge (tgt := 112) hx hb dX11_campOf_19 (by decide) (fun c_19 => absurd c_19 (nI_ge (b := 6) (by omega) (by omega))) (fun c_19 => ?_)
        refine lv_iconst (v := 0) hx hb dX11_campOf_22 (by decide) ?_
        refine lv_istore (lv' := [(4, .int 0), (3, .int (nI k)), (2, .int (cmK (σ 277) n i k)), (0, .ref (ad 276)), (1, .int (nI i))]) hx hb dX11_campOf_23 hl (by decide) rfl (fun ls hl => ?_)
        have key_25 : ∀ (d2 a : Nat), a + d2 = n → ∀ (H : Heap) (locs : List Loc) (ls : Array Slot), wP D ct ek ad X σ H → va_S (fr N0) s.heap H locs → lv_has ls 6 [(4, .int (nI a)), (3, .int (nI k)), (2, .int (cmA (σ 277) n i a (cmK (σ 277) n i k))), (0, .ref (ad 276)), (1, .int (nI i))] → W p l e (rmd 2 0 0) s m args below meth c H locs 0 0 (MQ below (wQi D ct ek ad N0 X (fun r τ => r = cmR (σ 277) n i ∧ τ = σ)) args s 0 0 (fr N0)) (F0 m 25 ls []) := by
          intro d2
          induction d2 with
          | zero =>
            intro k9 hk
            obtain rfl : n = k9 := by omega
            intro  H locs ls hP hS hl
            refine lv_iload hx hb dX11_campOf_25 (lv_at hl 0 rfl) ?_
            refine lv_aload_n hx hb dX11_campOf_27 rfl (lv_at hl 3 rfl) ?_
            refine gf S G hP 276 0 (by decide) oM rfl inX11 (by decide) fl_RX11_9 rfl rfl dX11_campOf_28 ?_
            refine lv_iconst (v := 0) hx hb dX11_campOf_31 (by decide) ?_
            refine ald S G hP 277 0 (by decide) (aM277 _) (by decide) (by omega) (by decide) dX11_campOf_32 ?_
            refine lv_icmp_ge (tgt := 106) hx hb dX11_campOf_33 (by decide) (fun c_33 => ?_) (fun c_33 => absurd (by rw [hn]; exact nI_le (by omega) (by omega)) c_33)
            refine lv_iinc (v := nI (k + 1)) (lv' := [(3, .int (nI (k + 1))), (4, .int (nI n)), (2, .int (cmA (σ 277) n i n (cmK (σ 277) n i k))), (0, .ref (ad 276)), (1, .int (nI i))]) hx hb dX11_campOf_106 hl (k := 1) rfl (nI_inc _) (by decide) rfl (fun ls hl => ?_)
            refine lv_goto (tgt := 16) hx hb dX11_campOf_109 (by decide) ?_
            exact ih (k + 1) (by omega)  _ _ _ hP hS (lv_v (lv_sub (l' := [(3, .int (nI (k + 1))), (2, .int (cmA (σ 277) n i n (cmK (σ 277) n i k))), (0, .ref (ad 276)), (1, .int (nI i))]) hl [0, 2, 3, 4] rfl) (by rw [cmK_s]))
          | succ d2 ih =>
            intro a hk  H locs ls hP hS hl
            have han : a < n := by omega
            refine lv_iload hx hb dX11_campOf_25 (lv_at hl 0 rfl) ?_
            refine lv_aload_n hx hb dX11_campOf_27 rfl (lv_at hl 3 rfl) ?_
            refine gf S G hP 276 0 (by decide) oM rfl inX11 (by decide) fl_RX11_9 rfl rfl dX11_campOf_28 ?_
            refine lv_iconst (v := 0) hx hb dX11_campOf_31 (by decide) ?_
            refine ald S G hP 277 0 (by decide) (aM277 _) (by decide) (by omega) (by decide) dX11_campOf_32 ?_
            refine lv_icmp_ge (tgt := 106) hx hb dX11_campOf_33 (by decide) (fun c_33 => absurd c_33 (by rw [hn]; exact nI_ge (by omega) (by omega))) (fun c_33 => ?_)
            refine lv_iload_n hx hb dX11_campOf_36 rfl (lv_at hl 2 rfl) ?_
            refine lv_iload hx hb dX11_campOf_37 (lv_at hl 0 rfl) ?_
            refine lv_ishr hx hb dX11_campOf_39 ?_
            refine lv_iconst (v := 1) hx hb dX11_campOf_40 (by decide) ?_
            refine lv_iand hx hb dX11_campOf_41 ?_
            refine lv_tope (y := bitV (cmA (σ 277) n i a (cmK (σ 277) n i k)) a) rfl ?_
            refine lv_if_ne (tgt := 48) hx hb dX11_campOf_42 (by decide) (fun c_42 => ?_) (fun c_42 => ?_)
            · refine lv_iconst (v := 0) hx hb dX11_campOf_48 (by decide) ?_
              refine lv_istore (lv' := [(5, .int 0), (4, .int (nI a)), (3, .int (nI k)), (2, .int (cmA (σ 277) n i a (cmK (σ 277) n i k))), (0, .ref (ad 276)), (1, .int (nI i))]) hx hb dX11_campOf_49 hl (by decide) rfl (fun ls hl => ?_)
              have key_51 : ∀ (d3 b : Nat), b + d3 = n → ∀ (H : Heap) (locs : List Loc) (ls : Array Slot), wP D ct ek ad X σ H → va_S (fr N0) s.heap H locs → lv_has ls 6 [(5, .int (nI b)), (4, .int (nI a)), (3, .int (nI k)), (2, .int (cmI (σ 277) i a b (cmA (σ 277) n i a (cmK (σ 277) n i k)))), (0, .ref (ad 276)), (1, .int (nI i))] → W p l e (rmd 2 0 0) s m args below meth c H locs 0 0 (MQ below (wQi D ct ek ad N0 X (fun r τ => r = cmR (σ 277) n i ∧ τ = σ)) args s 0 0 (fr N0)) (F0 m 51 ls []) := by
                intro d3
                induction d3 with
                | zero =>
                  intro k9 hk
                  obtain rfl : n = k9 := by omega
                  intro  H locs ls hP hS hl
                  refine lv_iload hx hb dX11_campOf_51 (lv_at hl 0 rfl) ?_
                  refine lv_aload_n hx hb dX11_campOf_53 rfl (lv_at hl 4 rfl) ?_
                  refine gf S G hP 276 0 (by decide) oM rfl inX11 (by decide) fl_RX11_9 rfl rfl dX11_campOf_54 ?_
                  refine lv_iconst (v := 0) hx hb dX11_campOf_57 (by decide) ?_
                  refine ald S G hP 277 0 (by decide) (aM277 _) (by decide) (by omega) (by decide) dX11_campOf_58 ?_
                  refine lv_icmp_ge (tgt := 100) hx hb dX11_campOf_59 (by decide) (fun c_59 => ?_) (fun c_59 => absurd (by rw [hn]; exact nI_le (by omega) (by omega)) c_59)
                  refine lv_iinc (v := nI (a + 1)) (lv' := [(4, .int (nI (a + 1))), (5, .int (nI n)), (3, .int (nI k)), (2, .int (cmI (σ 277) i a n (cmA (σ 277) n i a (cmK (σ 277) n i k)))), (0, .ref (ad 276)), (1, .int (nI i))]) hx hb dX11_campOf_100 hl (k := 1) rfl (nI_inc _) (by decide) rfl (fun ls hl => ?_)
                  refine lv_goto (tgt := 25) hx hb dX11_campOf_103 (by decide) ?_
                  exact ih (a + 1) (by omega)  _ _ _ hP hS (lv_v (lv_sub (l' := [(4, .int (nI (a + 1))), (3, .int (nI k)), (2, .int (cmI (σ 277) i a n (cmA (σ 277) n i a (cmK (σ 277) n i k)))), (0, .ref (ad 276)), (1, .int (nI i))]) hl [0, 2, 3, 4, 5] rfl) (by rw [cmA_s, if_neg c_42]))
                | succ d3 ih =>
                  intro b hk  H locs ls hP hS hl
                  have hbn : b < n := by omega
                  refine lv_iload hx hb dX11_campOf_51 (lv_at hl 0 rfl) ?_
                  refine lv_aload_n hx hb dX11_campOf_53 rfl (lv_at hl 4 rfl) ?_
                  refine gf S G hP 276 0 (by decide) oM rfl inX11 (by decide) fl_RX11_9 rfl rfl dX11_campOf_54 ?_
                  refine lv_iconst (v := 0) hx hb dX11_campOf_57 (by decide) ?_
                  refine ald S G hP 277 0 (by decide) (aM277 _) (by decide) (by omega) (by decide) dX11_campOf_58 ?_
                  refine lv_icmp_ge (tgt := 100) hx hb dX11_campOf_59 (by decide) (fun c_59 => absurd c_59 (by rw [hn]; exact nI_ge (by omega) (by omega))) (fun c_59 => ?_)
                  refine lv_aload_n hx hb dX11_campOf_62 rfl (lv_at hl 4 rfl) ?_
                  refine lv_iload hx hb dX11_campOf_63 (lv_at hl 1 rfl) ?_
                  refine lv_iload hx hb dX11_campOf_65 (lv_at hl 0 rfl) ?_
                  refine cVie (As := [.int (nI a), .int (nI b)]) S G 276 (c_X11_weighs l (D := D) (ct := ct) (ek := ek) (ad := ad) (N0 := N0) (X := X) (F := F) σ a (by omega) b (by omega)) ok_yX11_weighs ml_RX11_91 (by decide) oM rfl hP hS hl.1 rfl (by decide) rfl rfl (Nat.le_of_ble_eq_true rfl) ⟨Nat.zero_le _, Nat.zero_le _⟩ dX11_campOf_67 (fun H locs hP hS => ?_)
                  refine lv_if_le (tgt := 94) hx hb dX11_campOf_70 (by decide) (fun c_70 => ?_) (fun c_70 => ?_)
                  · refine lv_iinc (v := nI (b + 1)) (lv' := [(5, .int (nI (b + 1))), (4, .int (nI a)), (3, .int (nI k)), (2, .int (cmI (σ 277) i a b (cmA (σ 277) n i a (cmK (σ 277) n i k)))), (0, .ref (ad 276)), (1, .int (nI i))]) hx hb dX11_campOf_94 hl (k := 0) rfl (nI_inc _) (by decide) rfl (fun ls hl => ?_)
                    refine lv_goto (tgt := 51) hx hb dX11_campOf_97 (by decide) ?_
                    exact ih (b + 1) (by omega)  _ _ _ hP hS (lv_v (lv_sub (l' := [(5, .int (nI (b + 1))), (4, .int (nI a)), (3, .int (nI k)), (2, .int (cmI (σ 277) i a b (cmA (σ 277) n i a (cmK (σ 277) n i k)))), (0, .ref (ad 276)), (1, .int (nI i))]) hl [0, 1, 2, 3, 4, 5] rfl) (by rw [cmI_s, if_pos c_70]))
                  · refine lv_aload_n hx hb dX11_campOf_73 rfl (lv_at hl 4 rfl) ?_
                    refine lv_iload hx hb dX11_campOf_74 (lv_at hl 0 rfl) ?_
                    refine cVie (As := [.int (nI b)]) S G 276 (c_X11_side l (D := D) (ct := ct) (ek := ek) (ad := ad) (N0 := N0) (X := X) (F := F) σ b (by omega)) ok_yX11_side ml_RX11_173 (by decide) oM rfl hP hS hl.1 rfl (by decide) rfl rfl (Nat.le_of_ble_eq_true rfl) ⟨Nat.zero_le _, Nat.zero_le _⟩ dX11_campOf_76 (fun H locs hP hS => ?_)
                    refine lv_aload_n hx hb dX11_campOf_79 rfl (lv_at hl 4 rfl) ?_
                    refine lv_iload_n hx hb dX11_campOf_80 rfl (lv_at hl 5 rfl) ?_
                    refine cVie (As := [.int (nI i)]) S G 276 (c_X11_side l (D := D) (ct := ct) (ek := ek) (ad := ad) (N0 := N0) (X := X) (F := F) σ i (by omega)) ok_yX11_side ml_RX11_173 (by decide) oM rfl hP hS hl.1 rfl (by decide) rfl rfl (Nat.le_of_ble_eq_true rfl) ⟨Nat.zero_le _, Nat.zero_le _⟩ dX11_campOf_81 (fun H locs hP hS => ?_)
                    refine lv_icmp_ne (tgt := 94) hx hb dX11_campOf_84 (by decide) (fun c_84 => ?_) (fun c_84 => ?_)
                    · refine lv_iinc (v := nI (b + 1)) (lv' := [(5, .int (nI (b + 1))), (4, .int (nI a)), (3, .int (nI k)), (2, .int (cmI (σ 277) i a b (cmA (σ 277) n i a (cmK (σ 277) n i k)))), (0, .ref (ad 276)), (1, .int (nI i))]) hx hb dX11_campOf_94 hl (k := 0) rfl (nI_inc _) (by decide) rfl (fun ls hl => ?_)
                      refine lv_goto (tgt := 51) hx hb dX11_campOf_97 (by decide) ?_
                      exact ih (b + 1) (by omega)  _ _ _ hP hS (lv_v (lv_sub (l' := [(5, .int (nI (b + 1))), (4, .int (nI a)), (3, .int (nI k)), (2, .int (cmI (σ 277) i a b (cmA (σ 277) n i a (cmK (σ 277) n i k)))), (0, .ref (ad 276)), (1, .int (nI i))]) hl [0, 1, 2, 3, 4, 5] rfl) (by rw [cmI_s, if_neg c_70, if_neg c_84]))
                    · refine lv_iload_n hx hb dX11_campOf_87 rfl (lv_at hl 3 rfl) ?_
                      refine lv_iconst (v := 1) hx hb dX11_campOf_88 (by decide) ?_
                      refine lv_iload hx hb dX11_campOf_89 (lv_at hl 0 rfl) ?_
                      refine lv_ishl hx hb dX11_campOf_91 ?_
                      refine lv_ior hx hb dX11_campOf_92 ?_
                      refine lv_istore_n (lv' := [(2, .int ((cmI (σ 277) i a b (cmA (σ 277) n i a (cmK (σ 277) n i k))) ||| (1 <<< ((nI b) &&& 31)))), (5, .int (nI b)), (4, .int (nI a)), (3, .int (nI k)), (0, .ref (ad 276)), (1, .int (nI i))]) hx hb dX11_campOf_93 rfl hl (by decide) rfl (fun ls hl => ?_)
                      refine lv_iinc (v := nI (b + 1)) (lv' := [(5, .int (nI (b + 1))), (2, .int ((cmI (σ 277) i a b (cmA (σ 277) n i a (cmK (σ 277) n i k))) ||| (1 <<< ((nI b) &&& 31)))), (4, .int (nI a)), (3, .int (nI k)), (0, .ref (ad 276)), (1, .int (nI i))]) hx hb dX11_campOf_94 hl (k := 1) rfl (nI_inc _) (by decide) rfl (fun ls hl => ?_)
                      refine lv_goto (tgt := 51) hx hb dX11_campOf_97 (by decide) ?_
                      exact ih (b + 1) (by omega)  _ _ _ hP hS (lv_v (lv_sub (l' := [(5, .int (nI (b + 1))), (4, .int (nI a)), (3, .int (nI k)), (2, .int ((cmI (σ 277) i a b (cmA (σ 277) n i a (cmK (σ 277) n i k))) ||| (1 <<< ((nI b) &&& 31)))), (0, .ref (ad 276)), (1, .int (nI i))]) hl [0, 2, 3, 1, 4, 5] rfl) (by rw [cmI_s, if_neg c_70, if_pos c_84]; rfl))
              exact key_51 n 0 (by omega)  _ _ _ hP hS (lv_v (lv_sub (l' := [(5, .int 0), (4, .int (nI a)), (3, .int (nI k)), (2, .int (cmA (σ 277) n i a (cmK (σ 277) n i k))), (0, .ref (ad 276)), (1, .int (nI i))]) hl [0, 1, 2, 3, 4, 5] rfl) rfl)
            · refine lv_goto (tgt := 100) hx hb dX11_campOf_45 (by decide) ?_
              refine lv_iinc (v := nI (a + 1)) (lv' := [(4, .int (nI (a + 1))), (3, .int (nI k)), (2, .int (cmA (σ 277) n i a (cmK (σ 277) n i k))), (0, .ref (ad 276)), (1, .int (nI i))]) hx hb dX11_campOf_100 hl (k := 0) rfl (nI_inc _) (by decide) rfl (fun ls hl => ?_)
              refine lv_goto (tgt := 25) hx hb dX11_campOf_103 (by decide) ?_
              exact ih (a + 1) (by omega)  _ _ _ hP hS (lv_v (lv_sub (l' := [(4, .int (nI (a + 1))), (3, .int (nI k)), (2, .int (cmA (σ 277) n i a (cmK (σ 277) n i k))), (0, .ref (ad 276)), (1, .int (nI i))]) hl [0, 1, 2, 3, 4] rfl) (by rw [cmA_s, if_pos c_42]))
        exact key_25 n 0 (by omega)  _ _ _ hP hS (lv_v (lv_sub (l' := [(4, .int 0), (3, .int (nI k)), (2, .int (cmK (σ 277) n i k)), (0, .ref (ad 276)), (1, .int (nI i))]) hl [0, 1, 2, 3, 4] rfl) rfl)
    exact key_16 6 0 (by omega)  _ _ _ hP hS (lv_v (lv_sub (l' := [(3, .int 0), (2, .int (1 <<< ((nI i) &&& 31))), (0, .ref (ad 276)), (1, .int (nI i))]) hl [0, 1, 2, 3] rfl) rfl)
  · refine lv_iconst (v := 0) hx hb dX11_campOf_8 (by decide) ?_
    exact eI S hr hlocks hP hS dX11_campOf_9 (by first | (refine ⟨?_, ?_⟩ <;> simp only [cmR, c_5, ↓reduceIte, if_true, if_false, eq_self]; done) | (refine ⟨?_, rfl⟩; simp only [cmR, c_5, ↓reduceIte, if_true, if_false, eq_self]; done) | exact ⟨rfl, rfl⟩ | (refine ⟨?_, rfl⟩; simp [cmR, c_5]; done) | (simp [cmR, c_5]; done) | grind [cmR])

theorem ok_yX11_camp : COK RX11 yX11_camp cX11_camp 2 (some .int) 1 := ⟨im_yX11_camp, se_RX11_yX11_camp, in_RX11, co_yX11_camp, ⟨rfl, by decide +kernel, by decide +kernel, by decide +kernel⟩, by decide⟩
set_option maxHeartbeats 1000000 in
set_option maxRecDepth 100000 in
theorem c_X11_camp (l : Launch) {D : va_G} {ct : Nat → ClassId} {ek ad : Nat → Nat} {N0 : Nat} {X : va_W} {F : State → Prop} (σ : Mem) (x : Int32) (n : Nat) (hn : σ 277 0 = nI n) (hn6 : n ≤ 6) : MI l yX11_camp cX11_camp 2 (some .int) 3 D ct ek ad N0 X F [.ref (ad 276), .int x] σ (fun r τ => r = qV σ x (cmR (σ 277) n (tN x)) ∧ τ = qM σ x) := by
  refine ms0 (own := RX11) (by decide) rfl (Nat.le_of_ble_eq_true rfl) (fun p e s m args below meth c S hr hlocks hnm G hP hS ls hl => ?_)
  have hx := S.1
  have hb := S.2.1
  replace hl : lv_has ls 2 [(0, .ref (ad 276)), (1, .int x)] := hl
  refine lv_aload_n hx hb dX11_camp_0 rfl (lv_at hl 0 rfl) ?_
  refine lv_aload_n hx hb dX11_camp_1 rfl (lv_at hl 0 rfl) ?_
  refine lv_iload_n hx hb dX11_camp_2 rfl (lv_at hl 1 rfl) ?_
  refine cVie (As := [.int x]) S G 276 (c_X11_isOne l (D := D) (ct := ct) (ek := ek) (ad := ad) (N0 := N0) (X := X) (F := F) σ x) ok_yX11_isOne ml_RX11_71 (by decide) oM rfl hP hS hl.1 rfl (by decide) rfl rfl (Nat.le_of_ble_eq_true rfl) ⟨Nat.zero_le _, Nat.zero_le _⟩ dX11_camp_3 (fun H locs hP hS => ?_)
  refine lv_if_eq (tgt := 13) hx hb dX11_camp_6 (by decide) (fun c_6 => ?_) (fun c_6 => ?_)
  · refine lv_iconst (v := 1) hx hb dX11_camp_13 (by decide) ?_
    refine pf S G hP hS 276 20 (x := 1) tyX11 tyX11_ok nmX11 (by decide) oM rfl inX11 (by decide) fl_RX11_42 rfl rfl rfl rfl (Nat.le_of_ble_eq_true rfl) oM dX11_camp_14 (fun H locs hP hS => ?_)
    refine lv_aload_n hx hb dX11_camp_17 rfl (lv_at hl 0 rfl) ?_
    refine gf S G hP 276 20 (by decide) oM rfl inX11 (by decide) fl_RX11_42 rfl rfl dX11_camp_18 ?_
    refine lv_tope (y := 1) (by rw [sg_ss]) ?_
    refine lv_if_ne (tgt := 32) hx hb dX11_camp_21 (by decide) (fun c_21 => ?_) (fun c_21 => absurd c_21 (by decide))
    refine lv_iconst (v := 0) hx hb dX11_camp_32 (by decide) ?_
    exact eI S hr hlocks hP hS dX11_camp_33 (by first | (refine ⟨?_, ?_⟩ <;> simp only [qV, qM, thM, c_6, c_21, ↓reduceIte, if_true, if_false, eq_self]; done) | (refine ⟨?_, rfl⟩; simp only [qV, qM, thM, c_6, c_21, ↓reduceIte, if_true, if_false, eq_self]; done) | exact ⟨rfl, rfl⟩ | (refine ⟨?_, rfl⟩; simp [qV, qM, thM, c_6, c_21]; done) | (simp [qV, qM, thM, c_6, c_21]; done) | grind [qV, qM, thM])
  · refine lv_iconst (v := 0) hx hb dX11_camp_9 (by decide) ?_
    refine lv_goto (tgt := 14) hx hb dX11_camp_10 (by decide) ?_
    refine pf S G hP hS 276 20 (x := 0) tyX11 tyX11_ok nmX11 (by decide) oM rfl inX11 (by decide) fl_RX11_42 rfl rfl rfl rfl (Nat.le_of_ble_eq_true rfl) oM dX11_camp_14 (fun H locs hP hS => ?_)
    refine lv_aload_n hx hb dX11_camp_17 rfl (lv_at hl 0 rfl) ?_
    refine gf S G hP 276 20 (by decide) oM rfl inX11 (by decide) fl_RX11_42 rfl rfl dX11_camp_18 ?_
    refine lv_tope (y := 0) (by rw [sg_ss]) ?_
    refine lv_if_ne (tgt := 32) hx hb dX11_camp_21 (by decide) (fun c_21 => absurd rfl c_21) (fun c_21 => ?_)
    obtain ⟨h1, h1l⟩ := rngN (show ¬ rngB x 0 (σ 277 0 - 1) = 0 from c_6) hn (by omega)
    refine lv_aload_n hx hb dX11_camp_24 rfl (lv_at hl 0 rfl) ?_
    refine lv_iload_n hx hb dX11_camp_25 rfl (lv_at hl 1 rfl) ?_
    refine lv_tope (y := nI (tN (x))) h1 ?_
    refine cVie (As := [.int (nI (tN (x)))]) S G 276 (c_X11_campOf l (D := D) (ct := ct) (ek := ek) (ad := ad) (N0 := N0) (X := X) (F := F) (sg σ 276 20 0) (tN (x)) (by omega) n (by first | assumption | omega | (simp [sg_at]; assumption) | (simp [sg_at]; done)) (by omega)) ok_yX11_campOf ml_RX11_188 (by decide) oM rfl hP hS hl.1 rfl (by decide) rfl rfl (Nat.le_of_ble_eq_true rfl) ⟨Nat.zero_le _, Nat.zero_le _⟩ dX11_camp_26 (fun H locs hP hS => ?_)
    refine lv_tope (y := cmR (σ 277) n (tN x)) (by rw [th_r]) ?_
    refine lv_goto (tgt := 33) hx hb dX11_camp_29 (by decide) ?_
    exact eI S hr hlocks hP hS dX11_camp_33 (by first | (refine ⟨?_, ?_⟩ <;> simp only [qV, qM, thM, c_6, c_21, ↓reduceIte, if_true, if_false, eq_self]; done) | (refine ⟨?_, rfl⟩; simp only [qV, qM, thM, c_6, c_21, ↓reduceIte, if_true, if_false, eq_self]; done) | exact ⟨rfl, rfl⟩ | (refine ⟨?_, rfl⟩; simp [qV, qM, thM, c_6, c_21]; done) | (simp [qV, qM, thM, c_6, c_21]; done) | grind [qV, qM, thM])

theorem ok_yX11_greatest : COK RX11 yX11_greatest cX11_greatest 6 (some .int) 1 := ⟨im_yX11_greatest, se_RX11_yX11_greatest, in_RX11, co_yX11_greatest, ⟨rfl, by decide +kernel, by decide +kernel, by decide +kernel⟩, by decide⟩
set_option maxHeartbeats 1000000 in
set_option maxRecDepth 100000 in
theorem c_X11_greatest (l : Launch) {D : va_G} {ct : Nat → ClassId} {ek ad : Nat → Nat} {N0 : Nat} {X : va_W} {F : State → Prop} (σ : Mem) (z : Int32) (n : Nat) (hn : σ 277 0 = nI n) (hn6 : n ≤ 6) : MI l yX11_greatest cX11_greatest 6 (some .int) 1 D ct ek ad N0 X F [.ref (ad 276), .int z] σ (fun r τ => r = greV (σ 277) n z ∧ τ = thM σ (greT (σ 277) n z)) := by
  refine ms0 (own := RX11) (by decide) rfl (Nat.le_of_ble_eq_true rfl) (fun p e s m args below meth c S hr hlocks hnm G hP hS ls hl => ?_)
  have hx := S.1
  have hb := S.2.1
  replace hl : lv_has ls 6 [(0, .ref (ad 276)), (1, .int z)] := hl
  refine lv_aload_n hx hb dX11_greatest_0 rfl (lv_at hl 0 rfl) ?_
  refine lv_iconst (v := 0) hx hb dX11_greatest_1 (by decide) ?_
  refine pf S G hP hS 276 20 (x := 0) tyX11 tyX11_ok nmX11 (by decide) oM rfl inX11 (by decide) fl_RX11_42 rfl rfl rfl rfl (Nat.le_of_ble_eq_true rfl) oM dX11_greatest_2 (fun H locs hP hS => ?_)
  refine lv_iconst (v := (-1)) hx hb dX11_greatest_5 (by decide) ?_
  refine lv_istore_n (lv' := [(2, .int (-1)), (0, .ref (ad 276)), (1, .int z)]) hx hb dX11_greatest_6 rfl hl (by decide) rfl (fun ls hl => ?_)
  refine lv_iconst (v := 0) hx hb dX11_greatest_7 (by decide) ?_
  refine lv_istore_n (lv' := [(3, .int 0), (2, .int (-1)), (0, .ref (ad 276)), (1, .int z)]) hx hb dX11_greatest_8 rfl hl (by decide) rfl (fun ls hl => ?_)
  refine lv_iconst (v := 0) hx hb dX11_greatest_9 (by decide) ?_
  refine lv_istore (lv' := [(4, .int 0), (3, .int 0), (2, .int (-1)), (0, .ref (ad 276)), (1, .int z)]) hx hb dX11_greatest_10 hl (by decide) rfl (fun ls hl => ?_)
  have key_12 : ∀ (d k : Nat), k + d = n → ∀ (H : Heap) (locs : List Loc) (ls : Array Slot), wP D ct ek ad X (sg σ 276 20 0) H → va_S (fr N0) s.heap H locs → lv_has ls 6 [(4, .int (nI k)), (3, .int ((gbs (σ 277) z k).1)), (2, .int ((gbs (σ 277) z k).2)), (0, .ref (ad 276)), (1, .int z)] → W p l e (rmd 1 0 0) s m args below meth c H locs 0 0 (MQ below (wQi D ct ek ad N0 X (fun r τ => r = greV (σ 277) n z ∧ τ = thM σ (greT (σ 277) n z))) args s 0 0 (fr N0)) (F0 m 12 ls []) := by
    intro d
    induction d with
    | zero =>
      intro k9 hk
      obtain rfl : n = k9 := by omega
      intro  H locs ls hP hS hl
      refine lv_iload hx hb dX11_greatest_12 (lv_at hl 0 rfl) ?_
      refine lv_aload_n hx hb dX11_greatest_14 rfl (lv_at hl 3 rfl) ?_
      refine gf S G hP 276 0 (by decide) oM rfl inX11 (by decide) fl_RX11_9 rfl rfl dX11_greatest_15 ?_
      refine lv_iconst (v := 0) hx hb dX11_greatest_18 (by decide) ?_
      refine ald S G hP 277 0 (by decide) (aM277 _) (by decide) (by omega) (by decide) dX11_greatest_19 ?_
      refine lv_icmp_ge (tgt := 68) hx hb dX11_greatest_20 (by decide) (fun c_20 => ?_) (fun c_20 => absurd (by rw [(show (sg σ 276 20 0) 277 0 = nI n from by rw [th_r]; exact hn)]; exact nI_le (by omega) (by omega)) c_20)
      refine lv_iload_n hx hb dX11_greatest_68 rfl (lv_at hl 2 rfl) ?_
      refine lv_if_ge (tgt := 80) hx hb dX11_greatest_69 (by decide) (fun c_69 => ?_) (fun c_69 => ?_)
      · refine lv_iload_n hx hb dX11_greatest_80 rfl (lv_at hl 2 rfl) ?_
        exact eI S hr hlocks hP hS dX11_greatest_81 (by first | (refine ⟨?_, ?_⟩ <;> simp only [greV, greT, thM, sg_sg, c_20, c_69, ↓reduceIte, if_true, if_false, eq_self]; done) | (refine ⟨?_, rfl⟩; simp only [greV, greT, thM, sg_sg, c_20, c_69, ↓reduceIte, if_true, if_false, eq_self]; done) | exact ⟨rfl, rfl⟩ | (refine ⟨?_, rfl⟩; simp [greV, greT, thM, sg_sg, c_20, c_69]; done) | (simp [greV, greT, thM, sg_sg, c_20, c_69]; done) | grind [greV, greT, thM, sg_sg])
      · refine lv_aload_n hx hb dX11_greatest_72 rfl (lv_at hl 3 rfl) ?_
        refine lv_iconst (v := 1) hx hb dX11_greatest_73 (by decide) ?_
        refine cVie (As := [.int 1]) S G 276 (c_X11_raises l (D := D) (ct := ct) (ek := ek) (ad := ad) (N0 := N0) (X := X) (F := F) (sg σ 276 20 0) 1) ok_yX11_raises ml_RX11_64 (by decide) oM rfl hP hS hl.1 rfl (by decide) rfl rfl (Nat.le_of_ble_eq_true rfl) ⟨Nat.zero_le _, Nat.zero_le _⟩ dX11_greatest_74 (fun H locs hP hS => ?_)
        refine lv_goto (tgt := 81) hx hb dX11_greatest_77 (by decide) ?_
        exact eI S hr hlocks hP hS dX11_greatest_81 (by first | (refine ⟨?_, ?_⟩ <;> simp only [greV, greT, thM, sg_sg, c_20, c_69, ↓reduceIte, if_true, if_false, eq_self]; done) | (refine ⟨?_, rfl⟩; simp only [greV, greT, thM, sg_sg, c_20, c_69, ↓reduceIte, if_true, if_false, eq_self]; done) | exact ⟨rfl, rfl⟩ | (refine ⟨?_, rfl⟩; simp [greV, greT, thM, sg_sg, c_20, c_69]; done) | (simp [greV, greT, thM, sg_sg, c_20, c_69]; done) | grind [greV, greT, thM, sg_sg])
    | succ d ih =>
      intro k hk  H locs ls hP hS hl
      have hkn : k < n := by omega
      refine lv_iload hx hb dX11_greatest_12 (lv_at hl 0 rfl) ?_
      refine lv_aload_n hx hb dX11_greatest_14 rfl (lv_at hl 3 rfl) ?_
      refine gf S G hP 276 0 (by decide) oM rfl inX11 (by decide) fl_RX11_9 rfl rfl dX11_greatest_15 ?_
      refine lv_iconst (v := 0) hx hb dX11_greatest_18 (by decide) ?_
      refine ald S G hP 277 0 (by decide) (aM277 _) (by decide) (by omega) (by decide) dX11_greatest_19 ?_
      refine lv_icmp_ge (tgt := 68) hx hb dX11_greatest_20 (by decide) (fun c_20 => absurd c_20 (by rw [(show (sg σ 276 20 0) 277 0 = nI n from by rw [th_r]; exact hn)]; exact nI_ge (by omega) (by omega))) (fun c_20 => ?_)
      refine lv_iload_n hx hb dX11_greatest_23 rfl (lv_at hl 4 rfl) ?_
      have jn_24_1 : ∀ (H : Heap) (locs : List Loc) (ls : Array Slot), wP D ct ek ad X (sg σ 276 20 0) H → va_S (fr N0) s.heap H locs → lv_has ls 6 [(4, .int (nI k)), (3, .int ((gbs (σ 277) z k).1)), (2, .int ((gbs (σ 277) z k).2)), (0, .ref (ad 276)), (1, .int z)] → W p l e (rmd 1 0 0) s m args below meth c H locs 0 0 (MQ below (wQi D ct ek ad N0 X (fun r τ => r = greV (σ 277) n z ∧ τ = thM σ (greT (σ 277) n z))) args s 0 0 (fr N0)) (F0 m 45 ls [.int (greF (σ 277) z k)]) := by
        intro H locs ls hP hS hl
        refine lv_istore (lv' := [(5, .int (greF (σ 277) z k)), (4, .int (nI k)), (3, .int ((gbs (σ 277) z k).1)), (2, .int ((gbs (σ 277) z k).2)), (0, .ref (ad 276)), (1, .int z)]) hx hb dX11_greatest_45 hl (by decide) rfl (fun ls hl => ?_)
        refine lv_iload hx hb dX11_greatest_47 (lv_at hl 0 rfl) ?_
        refine lv_iload_n hx hb dX11_greatest_49 rfl (lv_at hl 2 rfl) ?_
        refine lv_icmp_gt (tgt := 56) hx hb dX11_greatest_50 (by decide) (fun c_50 => ?_) (fun c_50 => ?_)
        · refine lv_iload hx hb dX11_greatest_56 (lv_at hl 0 rfl) ?_
          refine lv_istore_n (lv' := [(3, .int (greF (σ 277) z k)), (5, .int (greF (σ 277) z k)), (4, .int (nI k)), (2, .int ((gbs (σ 277) z k).2)), (0, .ref (ad 276)), (1, .int z)]) hx hb dX11_greatest_58 rfl hl (by decide) rfl (fun ls hl => ?_)
          refine lv_iload hx hb dX11_greatest_59 (lv_at hl 2 rfl) ?_
          refine lv_istore_n (lv' := [(2, .int (nI k)), (3, .int (greF (σ 277) z k)), (5, .int (greF (σ 277) z k)), (4, .int (nI k)), (0, .ref (ad 276)), (1, .int z)]) hx hb dX11_greatest_61 rfl hl (by decide) rfl (fun ls hl => ?_)
          refine lv_iinc (v := nI (k + 1)) (lv' := [(4, .int (nI (k + 1))), (2, .int (nI k)), (3, .int (greF (σ 277) z k)), (5, .int (greF (σ 277) z k)), (0, .ref (ad 276)), (1, .int z)]) hx hb dX11_greatest_62 hl (k := 3) rfl (nI_inc _) (by decide) rfl (fun ls hl => ?_)
          refine lv_goto (tgt := 12) hx hb dX11_greatest_65 (by decide) ?_
          exact ih (k + 1) (by omega)  _ _ _ hP hS (lv_v (lv_sub (l' := [(4, .int (nI (k + 1))), (3, .int (greF (σ 277) z k)), (2, .int (nI k)), (0, .ref (ad 276)), (1, .int z)]) hl [0, 2, 1, 4, 5] rfl) (by rw [gbs_s, if_pos c_50]))
        · refine lv_goto (tgt := 62) hx hb dX11_greatest_53 (by decide) ?_
          refine lv_iinc (v := nI (k + 1)) (lv' := [(4, .int (nI (k + 1))), (5, .int (greF (σ 277) z k)), (3, .int ((gbs (σ 277) z k).1)), (2, .int ((gbs (σ 277) z k).2)), (0, .ref (ad 276)), (1, .int z)]) hx hb dX11_greatest_62 hl (k := 1) rfl (nI_inc _) (by decide) rfl (fun ls hl => ?_)
          refine lv_goto (tgt := 12) hx hb dX11_greatest_65 (by decide) ?_
          exact ih (k + 1) (by omega)  _ _ _ hP hS (lv_v (lv_sub (l' := [(4, .int (nI (k + 1))), (3, .int ((gbs (σ 277) z k).1)), (2, .int ((gbs (σ 277) z k).2)), (0, .ref (ad 276)), (1, .int z)]) hl [0, 2, 3, 4, 5] rfl) (by rw [gbs_s, if_neg c_50]))
      refine lv_if_eq (tgt := 38) hx hb dX11_greatest_24 (by decide) (fun c_24 => ?_) (fun c_24 => ?_)
      · refine lv_aload_n hx hb dX11_greatest_38 rfl (lv_at hl 3 rfl) ?_
        refine lv_iload hx hb dX11_greatest_39 (lv_at hl 0 rfl) ?_
        refine lv_iconst (v := 0) hx hb dX11_greatest_41 (by decide) ?_
        refine cVie (As := [.int (nI k), .int (nI 0)]) S G 276 (c_X11_of l (D := D) (ct := ct) (ek := ek) (ad := ad) (N0 := N0) (X := X) (F := F) (sg σ 276 20 0) k (by omega) 0 (by omega)) ok_yX11_of ml_RX11_83 (by decide) oM rfl hP hS hl.1 rfl (by decide) rfl rfl (Nat.le_of_ble_eq_true rfl) ⟨Nat.zero_le _, Nat.zero_le _⟩ dX11_greatest_42 (fun H locs hP hS => ?_)
        refine lv_tope (y := σ 277 (6 + 5 * k + 0)) (by rw [th_r]) ?_
        refine lv_tope (y := greF (σ 277) z k) (by simp [greF, c_20, c_24]) ?_
        exact jn_24_1 _ _ _ hP hS (lv_sub hl [0, 1, 2, 3, 4] rfl)
      · refine lv_aload_n hx hb dX11_greatest_27 rfl (lv_at hl 3 rfl) ?_
        refine lv_iload hx hb dX11_greatest_28 (lv_at hl 0 rfl) ?_
        refine lv_iconst (v := 0) hx hb dX11_greatest_30 (by decide) ?_
        refine cVie (As := [.int (nI k), .int (nI 0)]) S G 276 (c_X11_of l (D := D) (ct := ct) (ek := ek) (ad := ad) (N0 := N0) (X := X) (F := F) (sg σ 276 20 0) k (by omega) 0 (by omega)) ok_yX11_of ml_RX11_83 (by decide) oM rfl hP hS hl.1 rfl (by decide) rfl rfl (Nat.le_of_ble_eq_true rfl) ⟨Nat.zero_le _, Nat.zero_le _⟩ dX11_greatest_31 (fun H locs hP hS => ?_)
        refine lv_tope (y := σ 277 (6 + 5 * k + 0)) (by rw [th_r]) ?_
        refine lv_ineg hx hb dX11_greatest_34 ?_
        refine lv_goto (tgt := 45) hx hb dX11_greatest_35 (by decide) ?_
        refine lv_tope (y := greF (σ 277) z k) (by simp [greF, c_20, c_24]) ?_
        exact jn_24_1 _ _ _ hP hS (lv_sub hl [0, 1, 2, 3, 4] rfl)
  exact key_12 n 0 (by omega)  _ _ _ hP hS (lv_v (lv_sub (l' := [(4, .int 0), (3, .int 0), (2, .int (-1)), (0, .ref (ad 276)), (1, .int z)]) hl [0, 1, 2, 3, 4] rfl) rfl)

theorem ok_yX11_measure : COK RX11 yX11_measure cX11_measure 3 (some .int) 2 := ⟨im_yX11_measure, se_RX11_yX11_measure, in_RX11, co_yX11_measure, ⟨rfl, by decide +kernel, by decide +kernel, by decide +kernel⟩, by decide⟩
set_option maxHeartbeats 1000000 in
set_option maxRecDepth 100000 in
theorem c_X11_measure (l : Launch) {D : va_G} {ct : Nat → ClassId} {ek ad : Nat → Nat} {N0 : Nat} {X : va_W} {F : State → Prop} (σ : Mem) (i : Nat) (hi : i < 6) (w : Int32) (n : Nat) (hn : σ 277 0 = nI n) (hn6 : n ≤ 6) : MI l yX11_measure cX11_measure 3 (some .int) 2 D ct ek ad N0 X F [.ref (ad 276), .int (nI i), .int w] σ (fun r τ => r = meR (σ 277) n i w ∧ τ = σ) := by
  refine ms0 (own := RX11) (by decide) rfl (Nat.le_of_ble_eq_true rfl) (fun p e s m args below meth c S hr hlocks hnm G hP hS ls hl => ?_)
  have hx := S.1
  have hb := S.2.1
  replace hl : lv_has ls 3 [(0, .ref (ad 276)), (1, .int (nI i)), (2, .int w)] := hl
  refine lv_iload_n hx hb dX11_measure_0 rfl (lv_at hl 2 rfl) ?_
  refine lv_if_ne (tgt := 13) hx hb dX11_measure_1 (by decide) (fun c_1 => ?_) (fun c_1 => ?_)
  · refine lv_iload_n hx hb dX11_measure_13 rfl (lv_at hl 2 rfl) ?_
    refine lv_iconst (v := 1) hx hb dX11_measure_14 (by decide) ?_
    refine lv_icmp_ne (tgt := 30) hx hb dX11_measure_15 (by decide) (fun c_15 => ?_) (fun c_15 => ?_)
    · refine lv_iload_n hx hb dX11_measure_30 rfl (lv_at hl 2 rfl) ?_
      refine lv_iconst (v := 2) hx hb dX11_measure_31 (by decide) ?_
      refine lv_icmp_ne (tgt := 44) hx hb dX11_measure_32 (by decide) (fun c_32 => ?_) (fun c_32 => ?_)
      · refine lv_aload_n hx hb dX11_measure_44 rfl (lv_at hl 0 rfl) ?_
        refine lv_iload_n hx hb dX11_measure_45 rfl (lv_at hl 1 rfl) ?_
        refine cVie (As := [.int (nI i)]) S G 276 (c_X11_weights l (D := D) (ct := ct) (ek := ek) (ad := ad) (N0 := N0) (X := X) (F := F) σ i (by omega) n (by first | assumption | omega | (simp [sg_at]; assumption) | (simp [sg_at]; done)) (by omega)) ok_yX11_weights ml_RX11_94 (by decide) oM rfl hP hS hl.1 rfl (by decide) rfl rfl (Nat.le_of_ble_eq_true rfl) ⟨Nat.zero_le _, Nat.zero_le _⟩ dX11_measure_46 (fun H locs hP hS => ?_)
        exact eI S hr hlocks hP hS dX11_measure_49 (by first | (refine ⟨?_, ?_⟩ <;> simp only [meR, c_1, c_15, c_32, ↓reduceIte, if_true, if_false, eq_self]; done) | (refine ⟨?_, rfl⟩; simp only [meR, c_1, c_15, c_32, ↓reduceIte, if_true, if_false, eq_self]; done) | exact ⟨rfl, rfl⟩ | (refine ⟨?_, rfl⟩; simp [meR, c_1, c_15, c_32]; done) | (simp [meR, c_1, c_15, c_32]; done) | grind [meR])
      · refine lv_aload_n hx hb dX11_measure_35 rfl (lv_at hl 0 rfl) ?_
        refine lv_iload_n hx hb dX11_measure_36 rfl (lv_at hl 1 rfl) ?_
        refine lv_iconst (v := 1) hx hb dX11_measure_37 (by decide) ?_
        refine cVie (As := [.int (nI i), .int (nI 1)]) S G 276 (c_X11_of l (D := D) (ct := ct) (ek := ek) (ad := ad) (N0 := N0) (X := X) (F := F) σ i (by omega) 1 (by omega)) ok_yX11_of ml_RX11_83 (by decide) oM rfl hP hS hl.1 rfl (by decide) rfl rfl (Nat.le_of_ble_eq_true rfl) ⟨Nat.zero_le _, Nat.zero_le _⟩ dX11_measure_38 (fun H locs hP hS => ?_)
        refine lv_goto (tgt := 49) hx hb dX11_measure_41 (by decide) ?_
        exact eI S hr hlocks hP hS dX11_measure_49 (by first | (refine ⟨?_, ?_⟩ <;> simp only [meR, c_1, c_15, c_32, ↓reduceIte, if_true, if_false, eq_self]; done) | (refine ⟨?_, rfl⟩; simp only [meR, c_1, c_15, c_32, ↓reduceIte, if_true, if_false, eq_self]; done) | exact ⟨rfl, rfl⟩ | (refine ⟨?_, rfl⟩; simp [meR, c_1, c_15, c_32]; done) | (simp [meR, c_1, c_15, c_32]; done) | grind [meR])
    · refine lv_aload_n hx hb dX11_measure_18 rfl (lv_at hl 0 rfl) ?_
      refine lv_iload_n hx hb dX11_measure_19 rfl (lv_at hl 1 rfl) ?_
      refine lv_iconst (v := 0) hx hb dX11_measure_20 (by decide) ?_
      refine cVie (As := [.int (nI i), .int (nI 0)]) S G 276 (c_X11_of l (D := D) (ct := ct) (ek := ek) (ad := ad) (N0 := N0) (X := X) (F := F) σ i (by omega) 0 (by omega)) ok_yX11_of ml_RX11_83 (by decide) oM rfl hP hS hl.1 rfl (by decide) rfl rfl (Nat.le_of_ble_eq_true rfl) ⟨Nat.zero_le _, Nat.zero_le _⟩ dX11_measure_21 (fun H locs hP hS => ?_)
      refine rabs S rfl (by decide) hl.1 ml_RX11_86 (Nat.le_of_ble_eq_true rfl) ⟨Nat.zero_le _, Nat.zero_le _⟩ dX11_measure_24 ?_
      refine lv_goto (tgt := 49) hx hb dX11_measure_27 (by decide) ?_
      exact eI S hr hlocks hP hS dX11_measure_49 (by first | (refine ⟨?_, ?_⟩ <;> simp only [meR, c_1, c_15, ↓reduceIte, if_true, if_false, eq_self]; done) | (refine ⟨?_, rfl⟩; simp only [meR, c_1, c_15, ↓reduceIte, if_true, if_false, eq_self]; done) | exact ⟨rfl, rfl⟩ | (refine ⟨?_, rfl⟩; simp [meR, c_1, c_15]; done) | (simp [meR, c_1, c_15]; done) | grind [meR])
  · refine lv_aload_n hx hb dX11_measure_4 rfl (lv_at hl 0 rfl) ?_
    refine lv_iload_n hx hb dX11_measure_5 rfl (lv_at hl 1 rfl) ?_
    refine lv_iconst (v := 0) hx hb dX11_measure_6 (by decide) ?_
    refine cVie (As := [.int (nI i), .int (nI 0)]) S G 276 (c_X11_of l (D := D) (ct := ct) (ek := ek) (ad := ad) (N0 := N0) (X := X) (F := F) σ i (by omega) 0 (by omega)) ok_yX11_of ml_RX11_83 (by decide) oM rfl hP hS hl.1 rfl (by decide) rfl rfl (Nat.le_of_ble_eq_true rfl) ⟨Nat.zero_le _, Nat.zero_le _⟩ dX11_measure_7 (fun H locs hP hS => ?_)
    refine lv_goto (tgt := 49) hx hb dX11_measure_10 (by decide) ?_
    exact eI S hr hlocks hP hS dX11_measure_49 (by first | (refine ⟨?_, ?_⟩ <;> simp only [meR, c_1, ↓reduceIte, if_true, if_false, eq_self]; done) | (refine ⟨?_, rfl⟩; simp only [meR, c_1, ↓reduceIte, if_true, if_false, eq_self]; done) | exact ⟨rfl, rfl⟩ | (refine ⟨?_, rfl⟩; simp [meR, c_1]; done) | (simp [meR, c_1]; done) | grind [meR])

theorem ok_yX11_ranked : COK RX11 yX11_ranked cX11_ranked 7 (some .int) 2 := ⟨im_yX11_ranked, se_RX11_yX11_ranked, in_RX11, co_yX11_ranked, ⟨rfl, by decide +kernel, by decide +kernel, by decide +kernel⟩, by decide⟩
set_option maxHeartbeats 1000000 in
set_option maxRecDepth 100000 in
theorem c_X11_ranked (l : Launch) {D : va_G} {ct : Nat → ClassId} {ek ad : Nat → Nat} {N0 : Nat} {X : va_W} {F : State → Prop} (σ : Mem) (w : Int32) (x : Int32) (n : Nat) (hn : σ 277 0 = nI n) (hn6 : n ≤ 6) : MI l yX11_ranked cX11_ranked 7 (some .int) 3 D ct ek ad N0 X F [.ref (ad 276), .int w, .int x] σ (fun r τ => r = ranV (σ 277) n w x ∧ τ = thM σ (ranT (σ 277) n w x)) := by
  refine ms0 (own := RX11) (by decide) rfl (Nat.le_of_ble_eq_true rfl) (fun p e s m args below meth c S hr hlocks hnm G hP hS ls hl => ?_)
  have hx := S.1
  have hb := S.2.1
  replace hl : lv_has ls 7 [(0, .ref (ad 276)), (1, .int w), (2, .int x)] := hl
  refine lv_aload_n hx hb dX11_ranked_0 rfl (lv_at hl 0 rfl) ?_
  refine lv_iconst (v := 0) hx hb dX11_ranked_1 (by decide) ?_
  refine pf S G hP hS 276 20 (x := 0) tyX11 tyX11_ok nmX11 (by decide) oM rfl inX11 (by decide) fl_RX11_42 rfl rfl rfl rfl (Nat.le_of_ble_eq_true rfl) oM dX11_ranked_2 (fun H locs hP hS => ?_)
  refine lv_iload_n hx hb dX11_ranked_5 rfl (lv_at hl 1 rfl) ?_
  refine lv_iconst (v := 0) hx hb dX11_ranked_6 (by decide) ?_
  refine lv_iconst (v := 3) hx hb dX11_ranked_7 (by decide) ?_
  refine cSie (As := [.int w, .int 0, .int 3]) S G (c_X11_in l (D := D) (ct := ct) (ek := ek) (ad := ad) (N0 := N0) (X := X) (F := F) (sg σ 276 20 0) w 0 3) ok_yX11_in ml_RX11_67 hP hS hl.1 rfl (by decide) rfl rfl (Nat.le_of_ble_eq_true rfl) ⟨Nat.zero_le _, Nat.zero_le _⟩ dX11_ranked_8 (fun H locs hP hS => ?_)
  refine lv_if_ne (tgt := 20) hx hb dX11_ranked_11 (by decide) (fun c_11 => ?_) (fun c_11 => ?_)
  · refine lv_iconst (v := 0) hx hb dX11_ranked_20 (by decide) ?_
    refine lv_istore_n (lv' := [(3, .int 0), (0, .ref (ad 276)), (1, .int w), (2, .int x)]) hx hb dX11_ranked_21 rfl hl (by decide) rfl (fun ls hl => ?_)
    have key_22 : ∀ (d k : Nat), k + d = n → (rkS (σ 277) n w x = srch (fun p => rkC (σ 277) n w p n) x d k) → ∀ (H : Heap) (locs : List Loc) (ls : Array Slot), wP D ct ek ad X (sg σ 276 20 0) H → va_S (fr N0) s.heap H locs → lv_has ls 7 [(3, .int (nI k)), (0, .ref (ad 276)), (1, .int w), (2, .int x)] → W p l e (rmd 3 0 0) s m args below meth c H locs 0 0 (MQ below (wQi D ct ek ad N0 X (fun r τ => r = ranV (σ 277) n w x ∧ τ = thM σ (ranT (σ 277) n w x))) args s 0 0 (fr N0)) (F0 m 22 ls []) := by
      intro d
      induction d with
      | zero =>
        intro k9 hk
        obtain rfl : n = k9 := by omega
        intro hs H locs ls hP hS hl
        refine lv_iload_n hx hb dX11_ranked_22 rfl (lv_at hl 0 rfl) ?_
        refine lv_aload_n hx hb dX11_ranked_23 rfl (lv_at hl 1 rfl) ?_
        refine gf S G hP 276 0 (by decide) oM rfl inX11 (by decide) fl_RX11_9 rfl rfl dX11_ranked_24 ?_
        refine lv_iconst (v := 0) hx hb dX11_ranked_27 (by decide) ?_
        refine ald S G hP 277 0 (by decide) (aM277 _) (by decide) (by omega) (by decide) dX11_ranked_28 ?_
        refine lv_icmp_ge (tgt := 104) hx hb dX11_ranked_29 (by decide) (fun c_29 => ?_) (fun c_29 => absurd (by rw [(show (sg σ 276 20 0) 277 0 = nI n from by rw [th_r]; exact hn)]; exact nI_le (by omega) (by omega)) c_29)
        have hSr : rkS (σ 277) n w x = -1 := hs
        refine lv_aload_n hx hb dX11_ranked_104 rfl (lv_at hl 1 rfl) ?_
        refine lv_iconst (v := 2) hx hb dX11_ranked_105 (by decide) ?_
        refine cVie (As := [.int 2]) S G 276 (c_X11_raises l (D := D) (ct := ct) (ek := ek) (ad := ad) (N0 := N0) (X := X) (F := F) (sg σ 276 20 0) 2) ok_yX11_raises ml_RX11_64 (by decide) oM rfl hP hS hl.1 rfl (by decide) rfl rfl (Nat.le_of_ble_eq_true rfl) ⟨Nat.zero_le _, Nat.zero_le _⟩ dX11_ranked_106 (fun H locs hP hS => ?_)
        exact eI S hr hlocks hP hS dX11_ranked_109 (by simp [ranV, ranT, thM, sg_sg, c_11, hSr])
      | succ d ih =>
        intro k hk hs H locs ls hP hS hl
        have hkn : k < n := by omega
        refine lv_iload_n hx hb dX11_ranked_22 rfl (lv_at hl 0 rfl) ?_
        refine lv_aload_n hx hb dX11_ranked_23 rfl (lv_at hl 1 rfl) ?_
        refine gf S G hP 276 0 (by decide) oM rfl inX11 (by decide) fl_RX11_9 rfl rfl dX11_ranked_24 ?_
        refine lv_iconst (v := 0) hx hb dX11_ranked_27 (by decide) ?_
        refine ald S G hP 277 0 (by decide) (aM277 _) (by decide) (by omega) (by decide) dX11_ranked_28 ?_
        refine lv_icmp_ge (tgt := 104) hx hb dX11_ranked_29 (by decide) (fun c_29 => absurd c_29 (by rw [(show (sg σ 276 20 0) 277 0 = nI n from by rw [th_r]; exact hn)]; exact nI_ge (by omega) (by omega))) (fun c_29 => ?_)
        refine lv_iconst (v := 0) hx hb dX11_ranked_32 (by decide) ?_
        refine lv_istore (lv' := [(4, .int 0), (3, .int (nI k)), (0, .ref (ad 276)), (1, .int w), (2, .int x)]) hx hb dX11_ranked_33 hl (by decide) rfl (fun ls hl => ?_)
        refine lv_iconst (v := 0) hx hb dX11_ranked_35 (by decide) ?_
        refine lv_istore (lv' := [(5, .int 0), (4, .int 0), (3, .int (nI k)), (0, .ref (ad 276)), (1, .int w), (2, .int x)]) hx hb dX11_ranked_36 hl (by decide) rfl (fun ls hl => ?_)
        have key_38 : ∀ (d2 t : Nat), t + d2 = n → ∀ (H : Heap) (locs : List Loc) (ls : Array Slot), wP D ct ek ad X (sg σ 276 20 0) H → va_S (fr N0) s.heap H locs → lv_has ls 7 [(5, .int (nI t)), (4, .int (rkC (σ 277) n w k t)), (3, .int (nI k)), (0, .ref (ad 276)), (1, .int w), (2, .int x)] → W p l e (rmd 3 0 0) s m args below meth c H locs 0 0 (MQ below (wQi D ct ek ad N0 X (fun r τ => r = ranV (σ 277) n w x ∧ τ = thM σ (ranT (σ 277) n w x))) args s 0 0 (fr N0)) (F0 m 38 ls []) := by
          intro d2
          induction d2 with
          | zero =>
            intro k9 hk
            obtain rfl : n = k9 := by omega
            intro  H locs ls hP hS hl
            refine lv_iload hx hb dX11_ranked_38 (lv_at hl 0 rfl) ?_
            refine lv_aload_n hx hb dX11_ranked_40 rfl (lv_at hl 3 rfl) ?_
            refine gf S G hP 276 0 (by decide) oM rfl inX11 (by decide) fl_RX11_9 rfl rfl dX11_ranked_41 ?_
            refine lv_iconst (v := 0) hx hb dX11_ranked_44 (by decide) ?_
            refine ald S G hP 277 0 (by decide) (aM277 _) (by decide) (by omega) (by decide) dX11_ranked_45 ?_
            refine lv_icmp_ge (tgt := 90) hx hb dX11_ranked_46 (by decide) (fun c_46 => ?_) (fun c_46 => absurd (by rw [(show (sg σ 276 20 0) 277 0 = nI n from by rw [th_r]; exact hn)]; exact nI_le (by omega) (by omega)) c_46)
            refine lv_iload hx hb dX11_ranked_90 (lv_at hl 1 rfl) ?_
            refine lv_iload_n hx hb dX11_ranked_92 rfl (lv_at hl 5 rfl) ?_
            refine lv_icmp_ne (tgt := 98) hx hb dX11_ranked_93 (by decide) (fun c_93 => ?_) (fun c_93 => ?_)
            · refine lv_iinc (v := nI (k + 1)) (lv' := [(3, .int (nI (k + 1))), (5, .int (nI n)), (4, .int (rkC (σ 277) n w k n)), (0, .ref (ad 276)), (1, .int w), (2, .int x)]) hx hb dX11_ranked_98 hl (k := 2) rfl (nI_inc _) (by decide) rfl (fun ls hl => ?_)
              refine lv_goto (tgt := 22) hx hb dX11_ranked_101 (by decide) ?_
              exact ih (k + 1) (by omega) (by rw [hs]; exact if_neg c_93) _ _ _ hP hS (by first | (refine lv_v (lv_sub (l' := [(3, .int (nI (k + 1))), (0, .ref (ad 276)), (1, .int w), (2, .int x)]) hl [0, 3, 4, 5] rfl) ?_; simp [fo, ranV, ranT, thM, sg_sg, c_11, c_29, c_46, c_93]; done) | exact lv_sub hl [0, 3, 4, 5] rfl)
            · have hSr : rkS (σ 277) n w x = nI k := by rw [hs]; exact if_pos c_93
              have hSr0 : ¬ nI k < 0 := nI_pos (by omega)
              refine lv_iload_n hx hb dX11_ranked_96 rfl (lv_at hl 2 rfl) ?_
              exact eI S hr hlocks hP hS dX11_ranked_97 (by simp [ranV, ranT, thM, sg_sg, c_11, hSr, hSr0])
          | succ d2 ih =>
            intro t hk  H locs ls hP hS hl
            have htn : t < n := by omega
            refine lv_iload hx hb dX11_ranked_38 (lv_at hl 0 rfl) ?_
            refine lv_aload_n hx hb dX11_ranked_40 rfl (lv_at hl 3 rfl) ?_
            refine gf S G hP 276 0 (by decide) oM rfl inX11 (by decide) fl_RX11_9 rfl rfl dX11_ranked_41 ?_
            refine lv_iconst (v := 0) hx hb dX11_ranked_44 (by decide) ?_
            refine ald S G hP 277 0 (by decide) (aM277 _) (by decide) (by omega) (by decide) dX11_ranked_45 ?_
            refine lv_icmp_ge (tgt := 90) hx hb dX11_ranked_46 (by decide) (fun c_46 => absurd c_46 (by rw [(show (sg σ 276 20 0) 277 0 = nI n from by rw [th_r]; exact hn)]; exact nI_ge (by omega) (by omega))) (fun c_46 => ?_)
            refine lv_aload_n hx hb dX11_ranked_49 rfl (lv_at hl 3 rfl) ?_
            refine lv_iload hx hb dX11_ranked_50 (lv_at hl 0 rfl) ?_
            refine lv_iload_n hx hb dX11_ranked_52 rfl (lv_at hl 4 rfl) ?_
            refine cVie (As := [.int (nI t), .int w]) S G 276 (c_X11_measure l (D := D) (ct := ct) (ek := ek) (ad := ad) (N0 := N0) (X := X) (F := F) (sg σ 276 20 0) t (by omega) w n (by first | assumption | omega | (simp [sg_at]; assumption) | (simp [sg_at]; done)) (by omega)) ok_yX11_measure ml_RX11_197 (by decide) oM rfl hP hS hl.1 rfl (by decide) rfl rfl (Nat.le_of_ble_eq_true rfl) ⟨Nat.zero_le _, Nat.zero_le _⟩ dX11_ranked_53 (fun H locs hP hS => ?_)
            refine lv_tope (y := meR (σ 277) n t w) (by rw [th_r]) ?_
            refine lv_aload_n hx hb dX11_ranked_56 rfl (lv_at hl 3 rfl) ?_
            refine lv_iload_n hx hb dX11_ranked_57 rfl (lv_at hl 2 rfl) ?_
            refine lv_iload_n hx hb dX11_ranked_58 rfl (lv_at hl 4 rfl) ?_
            refine cVie (As := [.int (nI k), .int w]) S G 276 (c_X11_measure l (D := D) (ct := ct) (ek := ek) (ad := ad) (N0 := N0) (X := X) (F := F) (sg σ 276 20 0) k (by omega) w n (by first | assumption | omega | (simp [sg_at]; assumption) | (simp [sg_at]; done)) (by omega)) ok_yX11_measure ml_RX11_197 (by decide) oM rfl hP hS hl.1 rfl (by decide) rfl rfl (Nat.le_of_ble_eq_true rfl) ⟨Nat.zero_le _, Nat.zero_le _⟩ dX11_ranked_59 (fun H locs hP hS => ?_)
            refine lv_tope (y := meR (σ 277) n k w) (by rw [th_r]) ?_
            refine lv_isub hx hb dX11_ranked_62 ?_
            refine lv_istore (lv' := [(6, .int ((meR (σ 277) n t w) - (meR (σ 277) n k w))), (5, .int (nI t)), (4, .int (rkC (σ 277) n w k t)), (3, .int (nI k)), (0, .ref (ad 276)), (1, .int w), (2, .int x)]) hx hb dX11_ranked_63 hl (by decide) rfl (fun ls hl => ?_)
            refine lv_iload hx hb dX11_ranked_65 (lv_at hl 0 rfl) ?_
            refine lv_if_gt (tgt := 81) hx hb dX11_ranked_67 (by decide) (fun c_67 => ?_) (fun c_67 => ?_)
            · refine lv_iinc (v := (rkC (σ 277) n w k t) + 1) (lv' := [(4, .int ((rkC (σ 277) n w k t) + 1)), (6, .int ((meR (σ 277) n t w) - (meR (σ 277) n k w))), (5, .int (nI t)), (3, .int (nI k)), (0, .ref (ad 276)), (1, .int w), (2, .int x)]) hx hb dX11_ranked_81 hl (k := 2) rfl rfl (by decide) rfl (fun ls hl => ?_)
              refine lv_iinc (v := nI (t + 1)) (lv' := [(5, .int (nI (t + 1))), (4, .int ((rkC (σ 277) n w k t) + 1)), (6, .int ((meR (σ 277) n t w) - (meR (σ 277) n k w))), (3, .int (nI k)), (0, .ref (ad 276)), (1, .int w), (2, .int x)]) hx hb dX11_ranked_84 hl (k := 2) rfl (nI_inc _) (by decide) rfl (fun ls hl => ?_)
              refine lv_goto (tgt := 38) hx hb dX11_ranked_87 (by decide) ?_
              exact ih (t + 1) (by omega)  _ _ _ hP hS (lv_v (lv_sub (l' := [(5, .int (nI (t + 1))), (4, .int ((rkC (σ 277) n w k t) + 1)), (3, .int (nI k)), (0, .ref (ad 276)), (1, .int w), (2, .int x)]) hl [0, 1, 3, 4, 5, 6] rfl) (by rw [rkC_s, if_neg (show ¬ rkI (meR (σ 277) n t w - meR (σ 277) n k w) t k = 0 from by simp [rkI, c_67])]))
            · refine lv_iload hx hb dX11_ranked_70 (lv_at hl 0 rfl) ?_
              refine lv_if_ne (tgt := 84) hx hb dX11_ranked_72 (by decide) (fun c_72 => ?_) (fun c_72 => ?_)
              · refine lv_iinc (v := nI (t + 1)) (lv' := [(5, .int (nI (t + 1))), (6, .int ((meR (σ 277) n t w) - (meR (σ 277) n k w))), (4, .int (rkC (σ 277) n w k t)), (3, .int (nI k)), (0, .ref (ad 276)), (1, .int w), (2, .int x)]) hx hb dX11_ranked_84 hl (k := 1) rfl (nI_inc _) (by decide) rfl (fun ls hl => ?_)
                refine lv_goto (tgt := 38) hx hb dX11_ranked_87 (by decide) ?_
                exact ih (t + 1) (by omega)  _ _ _ hP hS (lv_v (lv_sub (l' := [(5, .int (nI (t + 1))), (4, .int (rkC (σ 277) n w k t)), (3, .int (nI k)), (0, .ref (ad 276)), (1, .int w), (2, .int x)]) hl [0, 2, 3, 4, 5, 6] rfl) (by rw [rkC_s, if_pos (show rkI (meR (σ 277) n t w - meR (σ 277) n k w) t k = 0 from by simp [rkI, c_67, c_72])]))
              · refine lv_iload hx hb dX11_ranked_75 (lv_at hl 1 rfl) ?_
                refine lv_iload_n hx hb dX11_ranked_77 rfl (lv_at hl 3 rfl) ?_
                refine lv_icmp_ge (tgt := 84) hx hb dX11_ranked_78 (by decide) (fun c_78 => ?_) (fun c_78 => ?_)
                · refine lv_iinc (v := nI (t + 1)) (lv' := [(5, .int (nI (t + 1))), (6, .int ((meR (σ 277) n t w) - (meR (σ 277) n k w))), (4, .int (rkC (σ 277) n w k t)), (3, .int (nI k)), (0, .ref (ad 276)), (1, .int w), (2, .int x)]) hx hb dX11_ranked_84 hl (k := 1) rfl (nI_inc _) (by decide) rfl (fun ls hl => ?_)
                  refine lv_goto (tgt := 38) hx hb dX11_ranked_87 (by decide) ?_
                  exact ih (t + 1) (by omega)  _ _ _ hP hS (lv_v (lv_sub (l' := [(5, .int (nI (t + 1))), (4, .int (rkC (σ 277) n w k t)), (3, .int (nI k)), (0, .ref (ad 276)), (1, .int w), (2, .int x)]) hl [0, 2, 3, 4, 5, 6] rfl) (by rw [rkC_s, if_pos (show rkI (meR (σ 277) n t w - meR (σ 277) n k w) t k = 0 from by simp [rkI, c_67, c_72, c_78])]))
                · refine lv_iinc (v := (rkC (σ 277) n w k t) + 1) (lv' := [(4, .int ((rkC (σ 277) n w k t) + 1)), (6, .int ((meR (σ 277) n t w) - (meR (σ 277) n k w))), (5, .int (nI t)), (3, .int (nI k)), (0, .ref (ad 276)), (1, .int w), (2, .int x)]) hx hb dX11_ranked_81 hl (k := 2) rfl rfl (by decide) rfl (fun ls hl => ?_)
                  refine lv_iinc (v := nI (t + 1)) (lv' := [(5, .int (nI (t + 1))), (4, .int ((rkC (σ 277) n w k t) + 1)), (6, .int ((meR (σ 277) n t w) - (meR (σ 277) n k w))), (3, .int (nI k)), (0, .ref (ad 276)), (1, .int w), (2, .int x)]) hx hb dX11_ranked_84 hl (k := 2) rfl (nI_inc _) (by decide) rfl (fun ls hl => ?_)
                  refine lv_goto (tgt := 38) hx hb dX11_ranked_87 (by decide) ?_
                  exact ih (t + 1) (by omega)  _ _ _ hP hS (lv_v (lv_sub (l' := [(5, .int (nI (t + 1))), (4, .int ((rkC (σ 277) n w k t) + 1)), (3, .int (nI k)), (0, .ref (ad 276)), (1, .int w), (2, .int x)]) hl [0, 1, 3, 4, 5, 6] rfl) (by rw [rkC_s, if_neg (show ¬ rkI (meR (σ 277) n t w - meR (σ 277) n k w) t k = 0 from by simp [rkI, c_67, c_72, c_78])]))
        exact key_38 n 0 (by omega)  _ _ _ hP hS (lv_v (lv_sub (l' := [(5, .int 0), (4, .int 0), (3, .int (nI k)), (0, .ref (ad 276)), (1, .int w), (2, .int x)]) hl [0, 1, 2, 3, 4, 5] rfl) rfl)
    exact key_22 n 0 (by omega) rfl _ _ _ hP hS (lv_sub hl [0, 1, 2, 3] rfl)
  · refine lv_aload_n hx hb dX11_ranked_14 rfl (lv_at hl 0 rfl) ?_
    refine lv_iconst (v := 1) hx hb dX11_ranked_15 (by decide) ?_
    refine cVie (As := [.int 1]) S G 276 (c_X11_raises l (D := D) (ct := ct) (ek := ek) (ad := ad) (N0 := N0) (X := X) (F := F) (sg σ 276 20 0) 1) ok_yX11_raises ml_RX11_64 (by decide) oM rfl hP hS hl.1 rfl (by decide) rfl rfl (Nat.le_of_ble_eq_true rfl) ⟨Nat.zero_le _, Nat.zero_le _⟩ dX11_ranked_16 (fun H locs hP hS => ?_)
    exact eI S hr hlocks hP hS dX11_ranked_19 (by simp [ranV, ranT, thM, sg_sg, c_11])

theorem ok_yX11_isWeaker : COK RX11 yX11_isWeaker cX11_isWeaker 4 (some .boolean) 2 := ⟨im_yX11_isWeaker, se_RX11_yX11_isWeaker, in_RX11, co_yX11_isWeaker, ⟨rfl, by decide +kernel, by decide +kernel, by decide +kernel⟩, by decide⟩
set_option maxHeartbeats 1000000 in
set_option maxRecDepth 100000 in
theorem c_X11_isWeaker (l : Launch) {D : va_G} {ct : Nat → ClassId} {ek ad : Nat → Nat} {N0 : Nat} {X : va_W} {F : State → Prop} (σ : Mem) (i : Nat) (hi : i < 6) (j : Nat) (hj : j < 6) (hBi : okB (σ 277) i) (hBj : okB (σ 277) j) : MI l yX11_isWeaker cX11_isWeaker 4 (some .boolean) 2 D ct ek ad N0 X F [.ref (ad 276), .int (nI i), .int (nI j)] σ (fun r τ => r = wkR (σ 277) i j ∧ τ = σ) := by
  refine ms0 (own := RX11) (by decide) rfl (Nat.le_of_ble_eq_true rfl) (fun p e s m args below meth c S hr hlocks hnm G hP hS ls hl => ?_)
  have hx := S.1
  have hb := S.2.1
  replace hl : lv_has ls 4 [(0, .ref (ad 276)), (1, .int (nI i)), (2, .int (nI j))] := hl
  refine lv_aload_n hx hb dX11_isWeaker_0 rfl (lv_at hl 0 rfl) ?_
  refine lv_iload_n hx hb dX11_isWeaker_1 rfl (lv_at hl 2 rfl) ?_
  refine lv_iconst (v := 2) hx hb dX11_isWeaker_2 (by decide) ?_
  refine cVie (As := [.int (nI j), .int (nI 2)]) S G 276 (c_X11_beam l (D := D) (ct := ct) (ek := ek) (ad := ad) (N0 := N0) (X := X) (F := F) σ j (by omega) 2 (by omega)) ok_yX11_beam ml_RX11_79 (by decide) oM rfl hP hS hl.1 rfl (by decide) rfl rfl (Nat.le_of_ble_eq_true rfl) ⟨Nat.zero_le _, Nat.zero_le _⟩ dX11_isWeaker_3 (fun H locs hP hS => ?_)
  refine lv_aload_n hx hb dX11_isWeaker_6 rfl (lv_at hl 0 rfl) ?_
  refine lv_iload_n hx hb dX11_isWeaker_7 rfl (lv_at hl 2 rfl) ?_
  refine cVie (As := [.int (nI j)]) S G 276 (c_X11_apart l (D := D) (ct := ct) (ek := ek) (ad := ad) (N0 := N0) (X := X) (F := F) σ j (by omega) hBj) ok_yX11_apart ml_RX11_135 (by decide) oM rfl hP hS hl.1 rfl (by decide) rfl rfl (Nat.le_of_ble_eq_true rfl) ⟨Nat.zero_le _, Nat.zero_le _⟩ dX11_isWeaker_8 (fun H locs hP hS => ?_)
  refine lv_isub hx hb dX11_isWeaker_11 ?_
  refine lv_aload_n hx hb dX11_isWeaker_12 rfl (lv_at hl 0 rfl) ?_
  refine lv_iload_n hx hb dX11_isWeaker_13 rfl (lv_at hl 1 rfl) ?_
  refine lv_iconst (v := 2) hx hb dX11_isWeaker_14 (by decide) ?_
  refine cVie (As := [.int (nI i), .int (nI 2)]) S G 276 (c_X11_beam l (D := D) (ct := ct) (ek := ek) (ad := ad) (N0 := N0) (X := X) (F := F) σ i (by omega) 2 (by omega)) ok_yX11_beam ml_RX11_79 (by decide) oM rfl hP hS hl.1 rfl (by decide) rfl rfl (Nat.le_of_ble_eq_true rfl) ⟨Nat.zero_le _, Nat.zero_le _⟩ dX11_isWeaker_15 (fun H locs hP hS => ?_)
  refine lv_isub hx hb dX11_isWeaker_18 ?_
  refine lv_aload_n hx hb dX11_isWeaker_19 rfl (lv_at hl 0 rfl) ?_
  refine lv_iload_n hx hb dX11_isWeaker_20 rfl (lv_at hl 1 rfl) ?_
  refine cVie (As := [.int (nI i)]) S G 276 (c_X11_apart l (D := D) (ct := ct) (ek := ek) (ad := ad) (N0 := N0) (X := X) (F := F) σ i (by omega) hBi) ok_yX11_apart ml_RX11_135 (by decide) oM rfl hP hS hl.1 rfl (by decide) rfl rfl (Nat.le_of_ble_eq_true rfl) ⟨Nat.zero_le _, Nat.zero_le _⟩ dX11_isWeaker_21 (fun H locs hP hS => ?_)
  refine lv_iadd hx hb dX11_isWeaker_24 ?_
  refine lv_tope (y := wkD (σ 277) i j) rfl ?_
  refine lv_istore_n (lv' := [(3, .int (wkD (σ 277) i j)), (0, .ref (ad 276)), (1, .int (nI i)), (2, .int (nI j))]) hx hb dX11_isWeaker_25 rfl hl (by decide) rfl (fun ls hl => ?_)
  refine lv_iload_n hx hb dX11_isWeaker_26 rfl (lv_at hl 0 rfl) ?_
  refine lv_if_ne (tgt := 44) hx hb dX11_isWeaker_27 (by decide) (fun c_27 => ?_) (fun c_27 => ?_)
  · refine lv_iload_n hx hb dX11_isWeaker_44 rfl (lv_at hl 0 rfl) ?_
    refine lv_if_gt (tgt := 57) hx hb dX11_isWeaker_45 (by decide) (fun c_45 => ?_) (fun c_45 => ?_)
    · refine lv_iconst (v := 1) hx hb dX11_isWeaker_57 (by decide) ?_
      refine lv_goto (tgt := 62) hx hb dX11_isWeaker_58 (by decide) ?_
      exact eZ S hr hlocks hP hS (by decide) dX11_isWeaker_62 (by have hE : wkE (σ 277) i j = wkD (σ 277) i j := if_neg c_27; refine ⟨?_, rfl⟩; show _ = rkI (wkE (σ 277) i j) i j; rw [hE]; unfold rkI; rw [if_pos c_45])
    · refine lv_iload_n hx hb dX11_isWeaker_48 rfl (lv_at hl 0 rfl) ?_
      refine lv_if_ne (tgt := 61) hx hb dX11_isWeaker_49 (by decide) (fun c_49 => ?_) (fun c_49 => ?_)
      · refine lv_iconst (v := 0) hx hb dX11_isWeaker_61 (by decide) ?_
        exact eZ S hr hlocks hP hS (by decide) dX11_isWeaker_62 (by have hE : wkE (σ 277) i j = wkD (σ 277) i j := if_neg c_27; refine ⟨?_, rfl⟩; show _ = rkI (wkE (σ 277) i j) i j; rw [hE]; unfold rkI; rw [if_neg c_45, if_neg c_49])
      · refine lv_iload_n hx hb dX11_isWeaker_52 rfl (lv_at hl 2 rfl) ?_
        refine lv_iload_n hx hb dX11_isWeaker_53 rfl (lv_at hl 3 rfl) ?_
        refine lv_icmp_ge (tgt := 61) hx hb dX11_isWeaker_54 (by decide) (fun c_54 => ?_) (fun c_54 => ?_)
        · refine lv_iconst (v := 0) hx hb dX11_isWeaker_61 (by decide) ?_
          exact eZ S hr hlocks hP hS (by decide) dX11_isWeaker_62 (by have hE : wkE (σ 277) i j = wkD (σ 277) i j := if_neg c_27; refine ⟨?_, rfl⟩; show _ = rkI (wkE (σ 277) i j) i j; rw [hE]; unfold rkI; rw [if_neg c_45, if_pos c_49, if_pos c_54])
        · refine lv_iconst (v := 1) hx hb dX11_isWeaker_57 (by decide) ?_
          refine lv_goto (tgt := 62) hx hb dX11_isWeaker_58 (by decide) ?_
          exact eZ S hr hlocks hP hS (by decide) dX11_isWeaker_62 (by have hE : wkE (σ 277) i j = wkD (σ 277) i j := if_neg c_27; refine ⟨?_, rfl⟩; show _ = rkI (wkE (σ 277) i j) i j; rw [hE]; unfold rkI; rw [if_neg c_45, if_pos c_49, if_neg c_54])
  · refine lv_aload_n hx hb dX11_isWeaker_30 rfl (lv_at hl 1 rfl) ?_
    refine lv_iload_n hx hb dX11_isWeaker_31 rfl (lv_at hl 2 rfl) ?_
    refine lv_iconst (v := 3) hx hb dX11_isWeaker_32 (by decide) ?_
    refine cVie (As := [.int (nI i), .int (nI 3)]) S G 276 (c_X11_beam l (D := D) (ct := ct) (ek := ek) (ad := ad) (N0 := N0) (X := X) (F := F) σ i (by omega) 3 (by omega)) ok_yX11_beam ml_RX11_79 (by decide) oM rfl hP hS hl.1 rfl (by decide) rfl rfl (Nat.le_of_ble_eq_true rfl) ⟨Nat.zero_le _, Nat.zero_le _⟩ dX11_isWeaker_33 (fun H locs hP hS => ?_)
    refine lv_aload_n hx hb dX11_isWeaker_36 rfl (lv_at hl 1 rfl) ?_
    refine lv_iload_n hx hb dX11_isWeaker_37 rfl (lv_at hl 3 rfl) ?_
    refine lv_iconst (v := 3) hx hb dX11_isWeaker_38 (by decide) ?_
    refine cVie (As := [.int (nI j), .int (nI 3)]) S G 276 (c_X11_beam l (D := D) (ct := ct) (ek := ek) (ad := ad) (N0 := N0) (X := X) (F := F) σ j (by omega) 3 (by omega)) ok_yX11_beam ml_RX11_79 (by decide) oM rfl hP hS hl.1 rfl (by decide) rfl rfl (Nat.le_of_ble_eq_true rfl) ⟨Nat.zero_le _, Nat.zero_le _⟩ dX11_isWeaker_39 (fun H locs hP hS => ?_)
    refine lv_isub hx hb dX11_isWeaker_42 ?_
    refine lv_istore_n (lv' := [(3, .int ((σ 277 (72 + 4 * i + 3)) - (σ 277 (72 + 4 * j + 3)))), (0, .ref (ad 276)), (1, .int (nI i)), (2, .int (nI j))]) hx hb dX11_isWeaker_43 rfl hl (by decide) rfl (fun ls hl => ?_)
    refine lv_iload_n hx hb dX11_isWeaker_44 rfl (lv_at hl 0 rfl) ?_
    refine lv_if_gt (tgt := 57) hx hb dX11_isWeaker_45 (by decide) (fun c_45 => ?_) (fun c_45 => ?_)
    · refine lv_iconst (v := 1) hx hb dX11_isWeaker_57 (by decide) ?_
      refine lv_goto (tgt := 62) hx hb dX11_isWeaker_58 (by decide) ?_
      exact eZ S hr hlocks hP hS (by decide) dX11_isWeaker_62 (by have hE : wkE (σ 277) i j = (σ 277 (72 + 4 * i + 3)) - (σ 277 (72 + 4 * j + 3)) := if_pos c_27; refine ⟨?_, rfl⟩; show _ = rkI (wkE (σ 277) i j) i j; rw [hE]; unfold rkI; rw [if_pos c_45])
    · refine lv_iload_n hx hb dX11_isWeaker_48 rfl (lv_at hl 0 rfl) ?_
      refine lv_if_ne (tgt := 61) hx hb dX11_isWeaker_49 (by decide) (fun c_49 => ?_) (fun c_49 => ?_)
      · refine lv_iconst (v := 0) hx hb dX11_isWeaker_61 (by decide) ?_
        exact eZ S hr hlocks hP hS (by decide) dX11_isWeaker_62 (by have hE : wkE (σ 277) i j = (σ 277 (72 + 4 * i + 3)) - (σ 277 (72 + 4 * j + 3)) := if_pos c_27; refine ⟨?_, rfl⟩; show _ = rkI (wkE (σ 277) i j) i j; rw [hE]; unfold rkI; rw [if_neg c_45, if_neg c_49])
      · refine lv_iload_n hx hb dX11_isWeaker_52 rfl (lv_at hl 2 rfl) ?_
        refine lv_iload_n hx hb dX11_isWeaker_53 rfl (lv_at hl 3 rfl) ?_
        refine lv_icmp_ge (tgt := 61) hx hb dX11_isWeaker_54 (by decide) (fun c_54 => ?_) (fun c_54 => ?_)
        · refine lv_iconst (v := 0) hx hb dX11_isWeaker_61 (by decide) ?_
          exact eZ S hr hlocks hP hS (by decide) dX11_isWeaker_62 (by have hE : wkE (σ 277) i j = (σ 277 (72 + 4 * i + 3)) - (σ 277 (72 + 4 * j + 3)) := if_pos c_27; refine ⟨?_, rfl⟩; show _ = rkI (wkE (σ 277) i j) i j; rw [hE]; unfold rkI; rw [if_neg c_45, if_pos c_49, if_pos c_54])
        · refine lv_iconst (v := 1) hx hb dX11_isWeaker_57 (by decide) ?_
          refine lv_goto (tgt := 62) hx hb dX11_isWeaker_58 (by decide) ?_
          exact eZ S hr hlocks hP hS (by decide) dX11_isWeaker_62 (by have hE : wkE (σ 277) i j = (σ 277 (72 + 4 * i + 3)) - (σ 277 (72 + 4 * j + 3)) := if_pos c_27; refine ⟨?_, rfl⟩; show _ = rkI (wkE (σ 277) i j) i j; rw [hE]; unfold rkI; rw [if_neg c_45, if_pos c_49, if_neg c_54])

theorem ok_yX11_weakest : COK RX11 yX11_weakest cX11_weakest 5 (some .int) 1 := ⟨im_yX11_weakest, se_RX11_yX11_weakest, in_RX11, co_yX11_weakest, ⟨rfl, by decide +kernel, by decide +kernel, by decide +kernel⟩, by decide⟩
set_option maxHeartbeats 1000000 in
set_option maxRecDepth 100000 in
theorem c_X11_weakest (l : Launch) {D : va_G} {ct : Nat → ClassId} {ek ad : Nat → Nat} {N0 : Nat} {X : va_W} {F : State → Prop} (σ : Mem) (x : Int32) (n : Nat) (mb : Nat) (hR : RowOK (σ 277) n mb) : MI l yX11_weakest cX11_weakest 5 (some .int) 3 D ct ek ad N0 X F [.ref (ad 276), .int x] σ (fun r τ => r = weaV (σ 277) mb x ∧ τ = thM σ (weaT (σ 277) mb x)) := by
  refine ms0 (own := RX11) (by decide) rfl (Nat.le_of_ble_eq_true rfl) (fun p e s m args below meth c S hr hlocks hnm G hP hS ls hl => ?_)
  have hx := S.1
  have hb := S.2.1
  replace hl : lv_has ls 5 [(0, .ref (ad 276)), (1, .int x)] := hl
  have hn := hR.1
  have hn6 := hR.2.1
  have hm := hR.2.2.1
  have hm6 := hR.2.2.2.1
  have hBq := hR.2.2.2.2.2.2
  refine lv_aload_n hx hb dX11_weakest_0 rfl (lv_at hl 0 rfl) ?_
  refine lv_iconst (v := 0) hx hb dX11_weakest_1 (by decide) ?_
  refine pf S G hP hS 276 20 (x := 0) tyX11 tyX11_ok nmX11 (by decide) oM rfl inX11 (by decide) fl_RX11_42 rfl rfl rfl rfl (Nat.le_of_ble_eq_true rfl) oM dX11_weakest_2 (fun H locs hP hS => ?_)
  refine lv_iconst (v := 0) hx hb dX11_weakest_5 (by decide) ?_
  refine lv_istore_n (lv' := [(2, .int 0), (0, .ref (ad 276)), (1, .int x)]) hx hb dX11_weakest_6 rfl hl (by decide) rfl (fun ls hl => ?_)
  have key_7 : ∀ (d k : Nat), k + d = mb → (wkS (σ 277) mb x = srch (fun b => cntB (wkT (σ 277) b) mb) x d k) → ∀ (H : Heap) (locs : List Loc) (ls : Array Slot), wP D ct ek ad X (sg σ 276 20 0) H → va_S (fr N0) s.heap H locs → lv_has ls 5 [(2, .int (nI k)), (0, .ref (ad 276)), (1, .int x)] → W p l e (rmd 3 0 0) s m args below meth c H locs 0 0 (MQ below (wQi D ct ek ad N0 X (fun r τ => r = weaV (σ 277) mb x ∧ τ = thM σ (weaT (σ 277) mb x))) args s 0 0 (fr N0)) (F0 m 7 ls []) := by
    intro d
    induction d with
    | zero =>
      intro k9 hk
      obtain rfl : mb = k9 := by omega
      intro hs H locs ls hP hS hl
      refine lv_iload_n hx hb dX11_weakest_7 rfl (lv_at hl 0 rfl) ?_
      refine lv_aload_n hx hb dX11_weakest_8 rfl (lv_at hl 1 rfl) ?_
      refine gf S G hP 276 0 (by decide) oM rfl inX11 (by decide) fl_RX11_9 rfl rfl dX11_weakest_9 ?_
      refine lv_iconst (v := 1) hx hb dX11_weakest_12 (by decide) ?_
      refine ald S G hP 277 1 (by decide) (aM277 _) (by decide) (by omega) (by decide) dX11_weakest_13 ?_
      refine lv_icmp_ge (tgt := 71) hx hb dX11_weakest_14 (by decide) (fun c_14 => ?_) (fun c_14 => absurd (by rw [(show (sg σ 276 20 0) 277 1 = nI mb from by rw [th_r]; exact hm)]; exact nI_le (by omega) (by omega)) c_14)
      have hSr : wkS (σ 277) mb x = -1 := hs
      refine lv_aload_n hx hb dX11_weakest_71 rfl (lv_at hl 1 rfl) ?_
      refine lv_iconst (v := 1) hx hb dX11_weakest_72 (by decide) ?_
      refine cVie (As := [.int 1]) S G 276 (c_X11_raises l (D := D) (ct := ct) (ek := ek) (ad := ad) (N0 := N0) (X := X) (F := F) (sg σ 276 20 0) 1) ok_yX11_raises ml_RX11_64 (by decide) oM rfl hP hS hl.1 rfl (by decide) rfl rfl (Nat.le_of_ble_eq_true rfl) ⟨Nat.zero_le _, Nat.zero_le _⟩ dX11_weakest_73 (fun H locs hP hS => ?_)
      exact eI S hr hlocks hP hS dX11_weakest_76 (by simp [weaV, weaT, thM, sg_sg, hSr])
    | succ d ih =>
      intro k hk hs H locs ls hP hS hl
      have hkn : k < mb := by omega
      refine lv_iload_n hx hb dX11_weakest_7 rfl (lv_at hl 0 rfl) ?_
      refine lv_aload_n hx hb dX11_weakest_8 rfl (lv_at hl 1 rfl) ?_
      refine gf S G hP 276 0 (by decide) oM rfl inX11 (by decide) fl_RX11_9 rfl rfl dX11_weakest_9 ?_
      refine lv_iconst (v := 1) hx hb dX11_weakest_12 (by decide) ?_
      refine ald S G hP 277 1 (by decide) (aM277 _) (by decide) (by omega) (by decide) dX11_weakest_13 ?_
      refine lv_icmp_ge (tgt := 71) hx hb dX11_weakest_14 (by decide) (fun c_14 => absurd c_14 (by rw [(show (sg σ 276 20 0) 277 1 = nI mb from by rw [th_r]; exact hm)]; exact nI_ge (by omega) (by omega))) (fun c_14 => ?_)
      refine lv_iconst (v := 0) hx hb dX11_weakest_17 (by decide) ?_
      refine lv_istore_n (lv' := [(3, .int 0), (2, .int (nI k)), (0, .ref (ad 276)), (1, .int x)]) hx hb dX11_weakest_18 rfl hl (by decide) rfl (fun ls hl => ?_)
      refine lv_iconst (v := 0) hx hb dX11_weakest_19 (by decide) ?_
      refine lv_istore (lv' := [(4, .int 0), (3, .int 0), (2, .int (nI k)), (0, .ref (ad 276)), (1, .int x)]) hx hb dX11_weakest_20 hl (by decide) rfl (fun ls hl => ?_)
      have key_22 : ∀ (d2 t : Nat), t + d2 = mb → ∀ (H : Heap) (locs : List Loc) (ls : Array Slot), wP D ct ek ad X (sg σ 276 20 0) H → va_S (fr N0) s.heap H locs → lv_has ls 5 [(4, .int (nI t)), (3, .int (cntB (wkT (σ 277) k) t)), (2, .int (nI k)), (0, .ref (ad 276)), (1, .int x)] → W p l e (rmd 3 0 0) s m args below meth c H locs 0 0 (MQ below (wQi D ct ek ad N0 X (fun r τ => r = weaV (σ 277) mb x ∧ τ = thM σ (weaT (σ 277) mb x))) args s 0 0 (fr N0)) (F0 m 22 ls []) := by
        intro d2
        induction d2 with
        | zero =>
          intro k9 hk
          obtain rfl : mb = k9 := by omega
          intro  H locs ls hP hS hl
          refine lv_iload hx hb dX11_weakest_22 (lv_at hl 0 rfl) ?_
          refine lv_aload_n hx hb dX11_weakest_24 rfl (lv_at hl 3 rfl) ?_
          refine gf S G hP 276 0 (by decide) oM rfl inX11 (by decide) fl_RX11_9 rfl rfl dX11_weakest_25 ?_
          refine lv_iconst (v := 1) hx hb dX11_weakest_28 (by decide) ?_
          refine ald S G hP 277 1 (by decide) (aM277 _) (by decide) (by omega) (by decide) dX11_weakest_29 ?_
          refine lv_icmp_ge (tgt := 58) hx hb dX11_weakest_30 (by decide) (fun c_30 => ?_) (fun c_30 => absurd (by rw [(show (sg σ 276 20 0) 277 1 = nI mb from by rw [th_r]; exact hm)]; exact nI_le (by omega) (by omega)) c_30)
          refine lv_iload_n hx hb dX11_weakest_58 rfl (lv_at hl 1 rfl) ?_
          refine lv_iload_n hx hb dX11_weakest_59 rfl (lv_at hl 4 rfl) ?_
          refine lv_icmp_ne (tgt := 65) hx hb dX11_weakest_60 (by decide) (fun c_60 => ?_) (fun c_60 => ?_)
          · refine lv_iinc (v := nI (k + 1)) (lv' := [(2, .int (nI (k + 1))), (4, .int (nI mb)), (3, .int (cntB (wkT (σ 277) k) mb)), (0, .ref (ad 276)), (1, .int x)]) hx hb dX11_weakest_65 hl (k := 2) rfl (nI_inc _) (by decide) rfl (fun ls hl => ?_)
            refine lv_goto (tgt := 7) hx hb dX11_weakest_68 (by decide) ?_
            exact ih (k + 1) (by omega) (by rw [hs]; exact if_neg c_60) _ _ _ hP hS (by first | (refine lv_v (lv_sub (l' := [(2, .int (nI (k + 1))), (0, .ref (ad 276)), (1, .int x)]) hl [0, 3, 4] rfl) ?_; simp [fo, weaV, weaT, thM, sg_sg, c_14, c_30, c_60]; done) | exact lv_sub hl [0, 3, 4] rfl)
          · have hSr : wkS (σ 277) mb x = nI k := by rw [hs]; exact if_pos c_60
            have hSr0 : ¬ nI k < 0 := nI_pos (by omega)
            refine lv_iload_n hx hb dX11_weakest_63 rfl (lv_at hl 2 rfl) ?_
            exact eI S hr hlocks hP hS dX11_weakest_64 (by simp [weaV, weaT, thM, sg_sg, hSr, hSr0])
        | succ d2 ih =>
          intro t hk  H locs ls hP hS hl
          have htn : t < mb := by omega
          refine lv_iload hx hb dX11_weakest_22 (lv_at hl 0 rfl) ?_
          refine lv_aload_n hx hb dX11_weakest_24 rfl (lv_at hl 3 rfl) ?_
          refine gf S G hP 276 0 (by decide) oM rfl inX11 (by decide) fl_RX11_9 rfl rfl dX11_weakest_25 ?_
          refine lv_iconst (v := 1) hx hb dX11_weakest_28 (by decide) ?_
          refine ald S G hP 277 1 (by decide) (aM277 _) (by decide) (by omega) (by decide) dX11_weakest_29 ?_
          refine lv_icmp_ge (tgt := 58) hx hb dX11_weakest_30 (by decide) (fun c_30 => absurd c_30 (by rw [(show (sg σ 276 20 0) 277 1 = nI mb from by rw [th_r]; exact hm)]; exact nI_ge (by omega) (by omega))) (fun c_30 => ?_)
          refine lv_iload hx hb dX11_weakest_33 (lv_at hl 0 rfl) ?_
          refine lv_iload_n hx hb dX11_weakest_35 rfl (lv_at hl 2 rfl) ?_
          refine lv_icmp_eq (tgt := 52) hx hb dX11_weakest_36 (by decide) (fun c_36 => ?_) (fun c_36 => ?_)
          · refine lv_iinc (v := nI (t + 1)) (lv' := [(4, .int (nI (t + 1))), (3, .int (cntB (wkT (σ 277) k) t)), (2, .int (nI k)), (0, .ref (ad 276)), (1, .int x)]) hx hb dX11_weakest_52 hl (k := 0) rfl (nI_inc _) (by decide) rfl (fun ls hl => ?_)
            refine lv_goto (tgt := 22) hx hb dX11_weakest_55 (by decide) ?_
            exact ih (t + 1) (by omega)  _ _ _ hP hS (lv_v (lv_sub (l' := [(4, .int (nI (t + 1))), (3, .int (cntB (wkT (σ 277) k) t)), (2, .int (nI k)), (0, .ref (ad 276)), (1, .int x)]) hl [0, 1, 2, 3, 4] rfl) (by rw [cntB_s, if_pos (show wkT (σ 277) k t = 0 from by simp [wkT, c_36])]))
          · refine lv_aload_n hx hb dX11_weakest_39 rfl (lv_at hl 3 rfl) ?_
            refine lv_iload hx hb dX11_weakest_40 (lv_at hl 0 rfl) ?_
            refine lv_iload_n hx hb dX11_weakest_42 rfl (lv_at hl 2 rfl) ?_
            refine cVie (As := [.int (nI t), .int (nI k)]) S G 276 (c_X11_isWeaker l (D := D) (ct := ct) (ek := ek) (ad := ad) (N0 := N0) (X := X) (F := F) (sg σ 276 20 0) t (by omega) k (by omega) (by rw [th_r]; exact hBq t (by omega)) (by rw [th_r]; exact hBq k (by omega))) ok_yX11_isWeaker ml_RX11_200 (by decide) oM rfl hP hS hl.1 rfl (by decide) rfl rfl (Nat.le_of_ble_eq_true rfl) ⟨Nat.zero_le _, Nat.zero_le _⟩ dX11_weakest_43 (fun H locs hP hS => ?_)
            refine lv_tope (y := wkR (σ 277) t k) (by rw [th_r]) ?_
            refine lv_if_eq (tgt := 52) hx hb dX11_weakest_46 (by decide) (fun c_46 => ?_) (fun c_46 => ?_)
            · refine lv_iinc (v := nI (t + 1)) (lv' := [(4, .int (nI (t + 1))), (3, .int (cntB (wkT (σ 277) k) t)), (2, .int (nI k)), (0, .ref (ad 276)), (1, .int x)]) hx hb dX11_weakest_52 hl (k := 0) rfl (nI_inc _) (by decide) rfl (fun ls hl => ?_)
              refine lv_goto (tgt := 22) hx hb dX11_weakest_55 (by decide) ?_
              exact ih (t + 1) (by omega)  _ _ _ hP hS (lv_v (lv_sub (l' := [(4, .int (nI (t + 1))), (3, .int (cntB (wkT (σ 277) k) t)), (2, .int (nI k)), (0, .ref (ad 276)), (1, .int x)]) hl [0, 1, 2, 3, 4] rfl) (by rw [cntB_s, if_pos (show wkT (σ 277) k t = 0 from by simp [wkT, c_36, c_46])]))
            · refine lv_iinc (v := (cntB (wkT (σ 277) k) t) + 1) (lv' := [(3, .int ((cntB (wkT (σ 277) k) t) + 1)), (4, .int (nI t)), (2, .int (nI k)), (0, .ref (ad 276)), (1, .int x)]) hx hb dX11_weakest_49 hl (k := 1) rfl rfl (by decide) rfl (fun ls hl => ?_)
              refine lv_iinc (v := nI (t + 1)) (lv' := [(4, .int (nI (t + 1))), (3, .int ((cntB (wkT (σ 277) k) t) + 1)), (2, .int (nI k)), (0, .ref (ad 276)), (1, .int x)]) hx hb dX11_weakest_52 hl (k := 1) rfl (nI_inc _) (by decide) rfl (fun ls hl => ?_)
              refine lv_goto (tgt := 22) hx hb dX11_weakest_55 (by decide) ?_
              exact ih (t + 1) (by omega)  _ _ _ hP hS (lv_v (lv_sub (l' := [(4, .int (nI (t + 1))), (3, .int ((cntB (wkT (σ 277) k) t) + 1)), (2, .int (nI k)), (0, .ref (ad 276)), (1, .int x)]) hl [0, 1, 2, 3, 4] rfl) (by rw [cntB_s, if_neg (show ¬ wkT (σ 277) k t = 0 from by simp [wkT, c_36, c_46])]))
      exact key_22 mb 0 (by omega)  _ _ _ hP hS (lv_v (lv_sub (l' := [(4, .int 0), (3, .int 0), (2, .int (nI k)), (0, .ref (ad 276)), (1, .int x)]) hl [0, 1, 2, 3, 4] rfl) rfl)
  exact key_7 mb 0 (by omega) rfl _ _ _ hP hS (lv_sub hl [0, 1, 2] rfl)

theorem ok_yX11_isEven : COK RX11 yX11_isEven cX11_isEven 1 (some .boolean) 0 := ⟨im_yX11_isEven, se_RX11_yX11_isEven, in_RX11, co_yX11_isEven, ⟨rfl, by decide +kernel, by decide +kernel, by decide +kernel⟩, by decide⟩
set_option maxHeartbeats 1000000 in
set_option maxRecDepth 100000 in
theorem c_X11_isEven (l : Launch) {D : va_G} {ct : Nat → ClassId} {ek ad : Nat → Nat} {N0 : Nat} {X : va_W} {F : State → Prop} (σ : Mem) : MI l yX11_isEven cX11_isEven 1 (some .boolean) 0 D ct ek ad N0 X F [.ref (ad 276)] σ (fun r τ => r = 1 ∧ τ = thM σ 0) := by
  refine ms0 (own := RX11) (by decide) rfl (Nat.le_of_ble_eq_true rfl) (fun p e s m args below meth c S hr hlocks hnm G hP hS ls hl => ?_)
  have hx := S.1
  have hb := S.2.1
  replace hl : lv_has ls 1 [(0, .ref (ad 276))] := hl
  refine lv_aload_n hx hb dX11_isEven_0 rfl (lv_at hl 0 rfl) ?_
  refine lv_iconst (v := 0) hx hb dX11_isEven_1 (by decide) ?_
  refine pf S G hP hS 276 20 (x := 0) tyX11 tyX11_ok nmX11 (by decide) oM rfl inX11 (by decide) fl_RX11_42 rfl rfl rfl rfl (Nat.le_of_ble_eq_true rfl) oM dX11_isEven_2 (fun H locs hP hS => ?_)
  refine lv_iconst (v := 1) hx hb dX11_isEven_5 (by decide) ?_
  exact eZ S hr hlocks hP hS (by decide) dX11_isEven_6 (by first | exact ⟨rfl, rfl⟩ | (refine ⟨?_, rfl⟩; simp [thM]; done) | (simp [thM]; done) | (simp only [thM, ↓reduceIte, if_true, if_false, and_self, true_and]; done) | grind [thM])

theorem ok_yX11_append : COK RX11 yX11_append cX11_append 2 (some .int) 1 := ⟨im_yX11_append, se_RX11_yX11_append, in_RX11, co_yX11_append, ⟨rfl, by decide +kernel, by decide +kernel, by decide +kernel⟩, by decide⟩
set_option maxHeartbeats 1000000 in
set_option maxRecDepth 100000 in
theorem c_X11_append (l : Launch) {D : va_G} {ct : Nat → ClassId} {ek ad : Nat → Nat} {N0 : Nat} {X : va_W} {F : State → Prop} (σ : Mem) (ch : Int32) (hc9 : vp_nar .char ch = ch) (L : Nat) (hL : σ 276 11 = nI L) (hL1 : L ≤ 60) : MI l yX11_append cX11_append 2 (some .int) 1 D ct ek ad N0 X F [.ref (ad 276), .int ch] σ (fun r τ => r = apeV L ∧ τ = apeM σ L ch) := by
  refine ms0 (own := RX11) (by decide) rfl (Nat.le_of_ble_eq_true rfl) (fun p e s m args below meth c S hr hlocks hnm G hP hS ls hl => ?_)
  have hx := S.1
  have hb := S.2.1
  replace hl : lv_has ls 2 [(0, .ref (ad 276)), (1, .int ch)] := hl
  refine lv_aload_n hx hb dX11_append_0 rfl (lv_at hl 0 rfl) ?_
  refine lv_iconst (v := 0) hx hb dX11_append_1 (by decide) ?_
  refine pf S G hP hS 276 20 (x := 0) tyX11 tyX11_ok nmX11 (by decide) oM rfl inX11 (by decide) fl_RX11_42 rfl rfl rfl rfl (Nat.le_of_ble_eq_true rfl) oM dX11_append_2 (fun H locs hP hS => ?_)
  refine lv_aload_n hx hb dX11_append_5 rfl (lv_at hl 0 rfl) ?_
  refine gf S G hP 276 11 (by decide) oM rfl inX11 (by decide) fl_RX11_203 rfl rfl dX11_append_6 ?_
  refine lv_bipush (v := 60) hx hb dX11_append_9 (by decide) ?_
  refine lv_icmp_ne (tgt := 20) hx hb dX11_append_11 (by decide) (fun c_11 => ?_) (fun c_11 => ?_)
  · have h6 : ¬ L = 60 := fun h => c_11 (by rw [show (sg σ 276 20 0) 276 11 = nI L by simp [sg_at, hL], h]; rfl)
    have hlt : L < 60 := by omega
    refine lv_aload_n hx hb dX11_append_20 rfl (lv_at hl 0 rfl) ?_
    refine gf S G hP 276 10 (by decide) oM rfl inX11 (by decide) fl_RX11_32 rfl rfl dX11_append_21 ?_
    refine lv_aload_n hx hb dX11_append_24 rfl (lv_at hl 0 rfl) ?_
    refine lv_dup hx hb dX11_append_25 rfl ?_
    refine gf S G hP 276 11 (by decide) oM rfl inX11 (by decide) fl_RX11_203 rfl rfl dX11_append_26 ?_
    refine lv_dup_x1 hx hb dX11_append_29 rfl rfl ?_
    refine lv_iconst (v := 1) hx hb dX11_append_30 (by decide) ?_
    refine nadd hx hb L 1 dX11_append_31 (by simp [sg_at, hL]) (by decide) ?_
    refine pf S G hP hS 276 11 (x := nI (L + 1)) tyX11 tyX11_ok nmX11 (by decide) oM rfl inX11 (by decide) fl_RX11_203 rfl rfl rfl rfl (Nat.le_of_ble_eq_true rfl) oM dX11_append_32 (fun H locs hP hS => ?_)
    refine lv_iload_n hx hb dX11_append_35 rfl (lv_at hl 1 rfl) ?_
    refine cst S G hP hS 284 L (by decide) aM284 (by simp [sg_at, hL]) (by omega) (by decide) hc9 dX11_append_36 (fun H locs hP hS => ?_)
    refine lv_aload_n hx hb dX11_append_37 rfl (lv_at hl 0 rfl) ?_
    refine gf S G hP 276 11 (by decide) oM rfl inX11 (by decide) fl_RX11_203 rfl rfl dX11_append_38 ?_
    refine lv_tope (y := nI (L + 1)) (by simp [sg_at]) ?_
    exact eI S hr hlocks hP hS dX11_append_41 (by first | (refine ⟨?_, ?_⟩ <;> simp only [apeV, apeM, thM, sg_sg, c_11, h6, ↓reduceIte, if_true, if_false, eq_self]; done) | (refine ⟨?_, rfl⟩; simp only [apeV, apeM, thM, sg_sg, c_11, h6, ↓reduceIte, if_true, if_false, eq_self]; done) | exact ⟨rfl, rfl⟩ | (refine ⟨?_, rfl⟩; simp [apeV, apeM, thM, sg_sg, c_11, h6]; done) | (simp [apeV, apeM, thM, sg_sg, c_11, h6]; done) | grind [apeV, apeM, thM, sg_sg])
  · have h6 : L = 60 := by rw [show (sg σ 276 20 0) 276 11 = nI L by simp [sg_at, hL]] at c_11; exact (nI_eq (b := 60) (by omega) (by decide)).mp c_11
    refine lv_aload_n hx hb dX11_append_14 rfl (lv_at hl 0 rfl) ?_
    refine lv_iconst (v := 1) hx hb dX11_append_15 (by decide) ?_
    refine cVie (As := [.int 1]) S G 276 (c_X11_raises l (D := D) (ct := ct) (ek := ek) (ad := ad) (N0 := N0) (X := X) (F := F) (sg σ 276 20 0) 1) ok_yX11_raises ml_RX11_64 (by decide) oM rfl hP hS hl.1 rfl (by decide) rfl rfl (Nat.le_of_ble_eq_true rfl) ⟨Nat.zero_le _, Nat.zero_le _⟩ dX11_append_16 (fun H locs hP hS => ?_)
    exact eI S hr hlocks hP hS dX11_append_19 (by first | (refine ⟨?_, ?_⟩ <;> simp only [apeV, apeM, thM, sg_sg, c_11, h6, ↓reduceIte, if_true, if_false, eq_self]; done) | (refine ⟨?_, rfl⟩; simp only [apeV, apeM, thM, sg_sg, c_11, h6, ↓reduceIte, if_true, if_false, eq_self]; done) | exact ⟨rfl, rfl⟩ | (refine ⟨?_, rfl⟩; simp [apeV, apeM, thM, sg_sg, c_11, h6]; done) | (simp [apeV, apeM, thM, sg_sg, c_11, h6]; done) | grind [apeV, apeM, thM, sg_sg])

theorem ok_yX11_faultPosition : COK RX11 yX11_faultPosition cX11_faultPosition 1 (some .int) 0 := ⟨im_yX11_faultPosition, se_RX11_yX11_faultPosition, in_RX11, co_yX11_faultPosition, ⟨rfl, by decide +kernel, by decide +kernel, by decide +kernel⟩, by decide⟩
set_option maxHeartbeats 1000000 in
set_option maxRecDepth 100000 in
theorem c_X11_faultPosition (l : Launch) {D : va_G} {ct : Nat → ClassId} {ek ad : Nat → Nat} {N0 : Nat} {X : va_W} {F : State → Prop} (σ : Mem) : MI l yX11_faultPosition cX11_faultPosition 1 (some .int) 0 D ct ek ad N0 X F [.ref (ad 276)] σ (fun r τ => r = σ 276 15 ∧ τ = thM σ 0) := by
  refine ms0 (own := RX11) (by decide) rfl (Nat.le_of_ble_eq_true rfl) (fun p e s m args below meth c S hr hlocks hnm G hP hS ls hl => ?_)
  have hx := S.1
  have hb := S.2.1
  replace hl : lv_has ls 1 [(0, .ref (ad 276))] := hl
  refine lv_aload_n hx hb dX11_faultPosition_0 rfl (lv_at hl 0 rfl) ?_
  refine lv_iconst (v := 0) hx hb dX11_faultPosition_1 (by decide) ?_
  refine pf S G hP hS 276 20 (x := 0) tyX11 tyX11_ok nmX11 (by decide) oM rfl inX11 (by decide) fl_RX11_42 rfl rfl rfl rfl (Nat.le_of_ble_eq_true rfl) oM dX11_faultPosition_2 (fun H locs hP hS => ?_)
  refine lv_aload_n hx hb dX11_faultPosition_5 rfl (lv_at hl 0 rfl) ?_
  refine gf S G hP 276 15 (by decide) oM rfl inX11 (by decide) fl_RX11_38 rfl rfl dX11_faultPosition_6 ?_
  refine lv_tope (y := σ 276 15) (by simp [sg_at]) ?_
  exact eI S hr hlocks hP hS dX11_faultPosition_9 (by first | exact ⟨rfl, rfl⟩ | (refine ⟨?_, rfl⟩; simp [thM]; done) | (simp [thM]; done) | (simp only [thM, ↓reduceIte, if_true, if_false, and_self, true_and]; done) | grind [thM])

theorem ok_yX11_reason : COK RX11 yX11_reason cX11_reason 2 (some .int) 1 := ⟨im_yX11_reason, se_RX11_yX11_reason, in_RX11, co_yX11_reason, ⟨rfl, by decide +kernel, by decide +kernel, by decide +kernel⟩, by decide⟩
set_option maxHeartbeats 1000000 in
set_option maxRecDepth 100000 in
theorem c_X11_reason (l : Launch) {D : va_G} {ct : Nat → ClassId} {ek ad : Nat → Nat} {N0 : Nat} {X : va_W} {F : State → Prop} (σ : Mem) (x : Int32) : MI l yX11_reason cX11_reason 2 (some .int) 1 D ct ek ad N0 X F [.ref (ad 276), .int x] σ (fun r τ => r = reaV σ x ∧ τ = thM σ (reaT σ x)) := by
  refine ms0 (own := RX11) (by decide) rfl (Nat.le_of_ble_eq_true rfl) (fun p e s m args below meth c S hr hlocks hnm G hP hS ls hl => ?_)
  have hx := S.1
  have hb := S.2.1
  replace hl : lv_has ls 2 [(0, .ref (ad 276)), (1, .int x)] := hl
  refine lv_aload_n hx hb dX11_reason_0 rfl (lv_at hl 0 rfl) ?_
  refine lv_iconst (v := 0) hx hb dX11_reason_1 (by decide) ?_
  refine pf S G hP hS 276 20 (x := 0) tyX11 tyX11_ok nmX11 (by decide) oM rfl inX11 (by decide) fl_RX11_42 rfl rfl rfl rfl (Nat.le_of_ble_eq_true rfl) oM dX11_reason_2 (fun H locs hP hS => ?_)
  refine lv_iload_n hx hb dX11_reason_5 rfl (lv_at hl 1 rfl) ?_
  refine lv_iconst (v := 0) hx hb dX11_reason_6 (by decide) ?_
  refine lv_iconst (v := 2) hx hb dX11_reason_7 (by decide) ?_
  refine cSie (As := [.int x, .int 0, .int 2]) S G (c_X11_in l (D := D) (ct := ct) (ek := ek) (ad := ad) (N0 := N0) (X := X) (F := F) (sg σ 276 20 0) x 0 2) ok_yX11_in ml_RX11_67 hP hS hl.1 rfl (by decide) rfl rfl (Nat.le_of_ble_eq_true rfl) ⟨Nat.zero_le _, Nat.zero_le _⟩ dX11_reason_8 (fun H locs hP hS => ?_)
  refine lv_if_ne (tgt := 20) hx hb dX11_reason_11 (by decide) (fun c_11 => ?_) (fun c_11 => ?_)
  · refine lv_aload_n hx hb dX11_reason_20 rfl (lv_at hl 0 rfl) ?_
    refine gf S G hP 276 16 (by decide) oM rfl inX11 (by decide) fl_RX11_51 rfl rfl dX11_reason_21 ?_
    refine lv_tope (y := σ 276 16) (by simp [sg_at]) ?_
    refine lv_if_ne (tgt := 33) hx hb dX11_reason_24 (by decide) (fun c_24 => ?_) (fun c_24 => ?_)
    · refine lv_iload_n hx hb dX11_reason_33 rfl (lv_at hl 1 rfl) ?_
      refine lv_if_ne (tgt := 44) hx hb dX11_reason_34 (by decide) (fun c_34 => ?_) (fun c_34 => ?_)
      · refine lv_iload_n hx hb dX11_reason_44 rfl (lv_at hl 1 rfl) ?_
        refine lv_iconst (v := 1) hx hb dX11_reason_45 (by decide) ?_
        refine lv_icmp_ne (tgt := 56) hx hb dX11_reason_46 (by decide) (fun c_46 => ?_) (fun c_46 => ?_)
        · refine lv_aload_n hx hb dX11_reason_56 rfl (lv_at hl 0 rfl) ?_
          refine gf S G hP 276 18 (by decide) oM rfl inX11 (by decide) fl_RX11_57 rfl rfl dX11_reason_57 ?_
          refine lv_tope (y := σ 276 18) (by simp [sg_at]) ?_
          exact eI S hr hlocks hP hS dX11_reason_60 (by first | (refine ⟨?_, ?_⟩ <;> simp only [reaV, reaT, thM, sg_sg, c_11, c_24, c_34, c_46, ↓reduceIte, if_true, if_false, eq_self]; done) | (refine ⟨?_, rfl⟩; simp only [reaV, reaT, thM, sg_sg, c_11, c_24, c_34, c_46, ↓reduceIte, if_true, if_false, eq_self]; done) | exact ⟨rfl, rfl⟩ | (refine ⟨?_, rfl⟩; simp [reaV, reaT, thM, sg_sg, c_11, c_24, c_34, c_46]; done) | (simp [reaV, reaT, thM, sg_sg, c_11, c_24, c_34, c_46]; done) | grind [reaV, reaT, thM, sg_sg])
        · refine lv_aload_n hx hb dX11_reason_49 rfl (lv_at hl 0 rfl) ?_
          refine gf S G hP 276 17 (by decide) oM rfl inX11 (by decide) fl_RX11_54 rfl rfl dX11_reason_50 ?_
          refine lv_tope (y := σ 276 17) (by simp [sg_at]) ?_
          refine lv_goto (tgt := 60) hx hb dX11_reason_53 (by decide) ?_
          exact eI S hr hlocks hP hS dX11_reason_60 (by first | (refine ⟨?_, ?_⟩ <;> simp only [reaV, reaT, thM, sg_sg, c_11, c_24, c_34, c_46, ↓reduceIte, if_true, if_false, eq_self]; done) | (refine ⟨?_, rfl⟩; simp only [reaV, reaT, thM, sg_sg, c_11, c_24, c_34, c_46, ↓reduceIte, if_true, if_false, eq_self]; done) | exact ⟨rfl, rfl⟩ | (refine ⟨?_, rfl⟩; simp [reaV, reaT, thM, sg_sg, c_11, c_24, c_34, c_46]; done) | (simp [reaV, reaT, thM, sg_sg, c_11, c_24, c_34, c_46]; done) | grind [reaV, reaT, thM, sg_sg])
      · refine lv_aload_n hx hb dX11_reason_37 rfl (lv_at hl 0 rfl) ?_
        refine gf S G hP 276 16 (by decide) oM rfl inX11 (by decide) fl_RX11_51 rfl rfl dX11_reason_38 ?_
        refine lv_tope (y := σ 276 16) (by simp [sg_at]) ?_
        refine lv_goto (tgt := 60) hx hb dX11_reason_41 (by decide) ?_
        exact eI S hr hlocks hP hS dX11_reason_60 (by first | (refine ⟨?_, ?_⟩ <;> simp only [reaV, reaT, thM, sg_sg, c_11, c_24, c_34, ↓reduceIte, if_true, if_false, eq_self]; done) | (refine ⟨?_, rfl⟩; simp only [reaV, reaT, thM, sg_sg, c_11, c_24, c_34, ↓reduceIte, if_true, if_false, eq_self]; done) | exact ⟨rfl, rfl⟩ | (refine ⟨?_, rfl⟩; simp [reaV, reaT, thM, sg_sg, c_11, c_24, c_34]; done) | (simp [reaV, reaT, thM, sg_sg, c_11, c_24, c_34]; done) | grind [reaV, reaT, thM, sg_sg])
    · refine lv_aload_n hx hb dX11_reason_27 rfl (lv_at hl 0 rfl) ?_
      refine lv_iconst (v := 2) hx hb dX11_reason_28 (by decide) ?_
      refine cVie (As := [.int 2]) S G 276 (c_X11_raises l (D := D) (ct := ct) (ek := ek) (ad := ad) (N0 := N0) (X := X) (F := F) (sg σ 276 20 0) 2) ok_yX11_raises ml_RX11_64 (by decide) oM rfl hP hS hl.1 rfl (by decide) rfl rfl (Nat.le_of_ble_eq_true rfl) ⟨Nat.zero_le _, Nat.zero_le _⟩ dX11_reason_29 (fun H locs hP hS => ?_)
      exact eI S hr hlocks hP hS dX11_reason_32 (by first | (refine ⟨?_, ?_⟩ <;> simp only [reaV, reaT, thM, sg_sg, c_11, c_24, ↓reduceIte, if_true, if_false, eq_self]; done) | (refine ⟨?_, rfl⟩; simp only [reaV, reaT, thM, sg_sg, c_11, c_24, ↓reduceIte, if_true, if_false, eq_self]; done) | exact ⟨rfl, rfl⟩ | (refine ⟨?_, rfl⟩; simp [reaV, reaT, thM, sg_sg, c_11, c_24]; done) | (simp [reaV, reaT, thM, sg_sg, c_11, c_24]; done) | grind [reaV, reaT, thM, sg_sg])
  · refine lv_aload_n hx hb dX11_reason_14 rfl (lv_at hl 0 rfl) ?_
    refine lv_iconst (v := 1) hx hb dX11_reason_15 (by decide) ?_
    refine cVie (As := [.int 1]) S G 276 (c_X11_raises l (D := D) (ct := ct) (ek := ek) (ad := ad) (N0 := N0) (X := X) (F := F) (sg σ 276 20 0) 1) ok_yX11_raises ml_RX11_64 (by decide) oM rfl hP hS hl.1 rfl (by decide) rfl rfl (Nat.le_of_ble_eq_true rfl) ⟨Nat.zero_le _, Nat.zero_le _⟩ dX11_reason_16 (fun H locs hP hS => ?_)
    exact eI S hr hlocks hP hS dX11_reason_19 (by first | (refine ⟨?_, ?_⟩ <;> simp only [reaV, reaT, thM, sg_sg, c_11, ↓reduceIte, if_true, if_false, eq_self]; done) | (refine ⟨?_, rfl⟩; simp only [reaV, reaT, thM, sg_sg, c_11, ↓reduceIte, if_true, if_false, eq_self]; done) | exact ⟨rfl, rfl⟩ | (refine ⟨?_, rfl⟩; simp [reaV, reaT, thM, sg_sg, c_11]; done) | (simp [reaV, reaT, thM, sg_sg, c_11]; done) | grind [reaV, reaT, thM, sg_sg])

theorem ok_yX11_tilts : COK RX11 yX11_tilts cX11_tilts 3 (some .int) 0 := ⟨im_yX11_tilts, se_RX11_yX11_tilts, in_RX11, co_yX11_tilts, ⟨rfl, by decide +kernel, by decide +kernel, by decide +kernel⟩, by decide⟩
set_option maxHeartbeats 1000000 in
set_option maxRecDepth 100000 in
theorem c_X11_tilts (l : Launch) {D : va_G} {ct : Nat → ClassId} {ek ad : Nat → Nat} {N0 : Nat} {X : va_W} {F : State → Prop} (σ : Mem) (n : Nat) (hn : σ 277 0 = nI n) (hn6 : n ≤ 6) : MI l yX11_tilts cX11_tilts 3 (some .int) 1 D ct ek ad N0 X F [.ref (ad 276)] σ (fun r τ => r = sumR (fun q => σ 277 (6 + 5 * q + 0)) 0 n ∧ τ = σ) := by
  refine ms0 (own := RX11) (by decide) rfl (Nat.le_of_ble_eq_true rfl) (fun p e s m args below meth c S hr hlocks hnm G hP hS ls hl => ?_)
  have hx := S.1
  have hb := S.2.1
  replace hl : lv_has ls 3 [(0, .ref (ad 276))] := hl
  refine lv_iconst (v := 0) hx hb dX11_tilts_0 (by decide) ?_
  refine lv_istore_n (lv' := [(1, .int 0), (0, .ref (ad 276))]) hx hb dX11_tilts_1 rfl hl (by decide) rfl (fun ls hl => ?_)
  refine lv_iconst (v := 0) hx hb dX11_tilts_2 (by decide) ?_
  refine lv_istore_n (lv' := [(2, .int 0), (1, .int 0), (0, .ref (ad 276))]) hx hb dX11_tilts_3 rfl hl (by decide) rfl (fun ls hl => ?_)
  have key_4 : ∀ (d k : Nat), k + d = n → ∀ (H : Heap) (locs : List Loc) (ls : Array Slot), wP D ct ek ad X σ H → va_S (fr N0) s.heap H locs → lv_has ls 3 [(2, .int (nI k)), (1, .int (sumR (fun q => σ 277 (6 + 5 * q + 0)) 0 k)), (0, .ref (ad 276))] → W p l e (rmd 1 0 0) s m args below meth c H locs 0 0 (MQ below (wQi D ct ek ad N0 X (fun r τ => r = sumR (fun q => σ 277 (6 + 5 * q + 0)) 0 n ∧ τ = σ)) args s 0 0 (fr N0)) (F0 m 4 ls []) := by
    intro d
    induction d with
    | zero =>
      intro k9 hk
      obtain rfl : n = k9 := by omega
      intro  H locs ls hP hS hl
      refine lv_iload_n hx hb dX11_tilts_4 rfl (lv_at hl 0 rfl) ?_
      refine lv_aload_n hx hb dX11_tilts_5 rfl (lv_at hl 2 rfl) ?_
      refine gf S G hP 276 0 (by decide) oM rfl inX11 (by decide) fl_RX11_9 rfl rfl dX11_tilts_6 ?_
      refine lv_iconst (v := 0) hx hb dX11_tilts_9 (by decide) ?_
      refine ald S G hP 277 0 (by decide) (aM277 _) (by decide) (by omega) (by decide) dX11_tilts_10 ?_
      refine lv_icmp_ge (tgt := 29) hx hb dX11_tilts_11 (by decide) (fun c_11 => ?_) (fun c_11 => absurd (by rw [hn]; exact nI_le (by omega) (by omega)) c_11)
      refine lv_iload_n hx hb dX11_tilts_29 rfl (lv_at hl 1 rfl) ?_
      exact eI S hr hlocks hP hS dX11_tilts_30 (by first | exact ⟨rfl, rfl⟩ | (refine ⟨?_, rfl⟩; simp [c_11]; done) | (simp [c_11]; done) | (simp only [c_11, ↓reduceIte, if_true, if_false, and_self, true_and]; done) | grind [])
    | succ d ih =>
      intro k hk  H locs ls hP hS hl
      have hkn : k < n := by omega
      refine lv_iload_n hx hb dX11_tilts_4 rfl (lv_at hl 0 rfl) ?_
      refine lv_aload_n hx hb dX11_tilts_5 rfl (lv_at hl 2 rfl) ?_
      refine gf S G hP 276 0 (by decide) oM rfl inX11 (by decide) fl_RX11_9 rfl rfl dX11_tilts_6 ?_
      refine lv_iconst (v := 0) hx hb dX11_tilts_9 (by decide) ?_
      refine ald S G hP 277 0 (by decide) (aM277 _) (by decide) (by omega) (by decide) dX11_tilts_10 ?_
      refine lv_icmp_ge (tgt := 29) hx hb dX11_tilts_11 (by decide) (fun c_11 => absurd c_11 (by rw [hn]; exact nI_ge (by omega) (by omega))) (fun c_11 => ?_)
      refine lv_iload_n hx hb dX11_tilts_14 rfl (lv_at hl 1 rfl) ?_
      refine lv_aload_n hx hb dX11_tilts_15 rfl (lv_at hl 2 rfl) ?_
      refine lv_iload_n hx hb dX11_tilts_16 rfl (lv_at hl 0 rfl) ?_
      refine lv_iconst (v := 0) hx hb dX11_tilts_17 (by decide) ?_
      refine cVie (As := [.int (nI k), .int (nI 0)]) S G 276 (c_X11_of l (D := D) (ct := ct) (ek := ek) (ad := ad) (N0 := N0) (X := X) (F := F) σ k (by omega) 0 (by omega)) ok_yX11_of ml_RX11_83 (by decide) oM rfl hP hS hl.1 rfl (by decide) rfl rfl (Nat.le_of_ble_eq_true rfl) ⟨Nat.zero_le _, Nat.zero_le _⟩ dX11_tilts_18 (fun H locs hP hS => ?_)
      refine lv_iadd hx hb dX11_tilts_21 ?_
      refine lv_istore_n (lv' := [(1, .int ((sumR (fun q => σ 277 (6 + 5 * q + 0)) 0 k) + (σ 277 (6 + 5 * k + 0)))), (2, .int (nI k)), (0, .ref (ad 276))]) hx hb dX11_tilts_22 rfl hl (by decide) rfl (fun ls hl => ?_)
      refine lv_iinc (v := nI (k + 1)) (lv' := [(2, .int (nI (k + 1))), (1, .int ((sumR (fun q => σ 277 (6 + 5 * q + 0)) 0 k) + (σ 277 (6 + 5 * k + 0)))), (0, .ref (ad 276))]) hx hb dX11_tilts_23 hl (k := 1) rfl (nI_inc _) (by decide) rfl (fun ls hl => ?_)
      refine lv_goto (tgt := 4) hx hb dX11_tilts_26 (by decide) ?_
      exact ih (k + 1) (by omega)  _ _ _ hP hS (lv_v (lv_sub (l' := [(2, .int (nI (k + 1))), (1, .int ((sumR (fun q => σ 277 (6 + 5 * q + 0)) 0 k) + (σ 277 (6 + 5 * k + 0)))), (0, .ref (ad 276))]) hl [0, 1, 2] rfl) rfl)
  exact key_4 n 0 (by omega)  _ _ _ hP hS (lv_v (lv_sub (l' := [(2, .int 0), (1, .int 0), (0, .ref (ad 276))]) hl [0, 1, 2] rfl) rfl)

theorem ok_yX11_plumb : COK RX11 yX11_plumb cX11_plumb 3 (some .int) 0 := ⟨im_yX11_plumb, se_RX11_yX11_plumb, in_RX11, co_yX11_plumb, ⟨rfl, by decide +kernel, by decide +kernel, by decide +kernel⟩, by decide⟩
set_option maxHeartbeats 1000000 in
set_option maxRecDepth 100000 in
theorem c_X11_plumb (l : Launch) {D : va_G} {ct : Nat → ClassId} {ek ad : Nat → Nat} {N0 : Nat} {X : va_W} {F : State → Prop} (σ : Mem) (n : Nat) (hn : σ 277 0 = nI n) (hn6 : n ≤ 6) : MI l yX11_plumb cX11_plumb 3 (some .int) 1 D ct ek ad N0 X F [.ref (ad 276)] σ (fun r τ => r = plmR (fun q => σ 277 (6 + 5 * q + 0)) n ∧ τ = σ) := by
  refine ms0 (own := RX11) (by decide) rfl (Nat.le_of_ble_eq_true rfl) (fun p e s m args below meth c S hr hlocks hnm G hP hS ls hl => ?_)
  have hx := S.1
  have hb := S.2.1
  replace hl : lv_has ls 3 [(0, .ref (ad 276))] := hl
  refine lv_iconst (v := 0) hx hb dX11_plumb_0 (by decide) ?_
  refine lv_istore_n (lv' := [(1, .int 0), (0, .ref (ad 276))]) hx hb dX11_plumb_1 rfl hl (by decide) rfl (fun ls hl => ?_)
  refine lv_iconst (v := 0) hx hb dX11_plumb_2 (by decide) ?_
  refine lv_istore_n (lv' := [(2, .int 0), (1, .int 0), (0, .ref (ad 276))]) hx hb dX11_plumb_3 rfl hl (by decide) rfl (fun ls hl => ?_)
  have key_4 : ∀ (d k : Nat), k + d = n → ∀ (H : Heap) (locs : List Loc) (ls : Array Slot), wP D ct ek ad X σ H → va_S (fr N0) s.heap H locs → lv_has ls 3 [(2, .int (nI k)), (1, .int (plmR (fun q => σ 277 (6 + 5 * q + 0)) k)), (0, .ref (ad 276))] → W p l e (rmd 1 0 0) s m args below meth c H locs 0 0 (MQ below (wQi D ct ek ad N0 X (fun r τ => r = plmR (fun q => σ 277 (6 + 5 * q + 0)) n ∧ τ = σ)) args s 0 0 (fr N0)) (F0 m 4 ls []) := by
    intro d
    induction d with
    | zero =>
      intro k9 hk
      obtain rfl : n = k9 := by omega
      intro  H locs ls hP hS hl
      refine lv_iload_n hx hb dX11_plumb_4 rfl (lv_at hl 0 rfl) ?_
      refine lv_aload_n hx hb dX11_plumb_5 rfl (lv_at hl 2 rfl) ?_
      refine gf S G hP 276 0 (by decide) oM rfl inX11 (by decide) fl_RX11_9 rfl rfl dX11_plumb_6 ?_
      refine lv_iconst (v := 0) hx hb dX11_plumb_9 (by decide) ?_
      refine ald S G hP 277 0 (by decide) (aM277 _) (by decide) (by omega) (by decide) dX11_plumb_10 ?_
      refine lv_icmp_ge (tgt := 32) hx hb dX11_plumb_11 (by decide) (fun c_11 => ?_) (fun c_11 => absurd (by rw [hn]; exact nI_le (by omega) (by omega)) c_11)
      refine lv_iload_n hx hb dX11_plumb_32 rfl (lv_at hl 1 rfl) ?_
      exact eI S hr hlocks hP hS dX11_plumb_33 (by first | exact ⟨rfl, rfl⟩ | (refine ⟨?_, rfl⟩; simp [c_11]; done) | (simp [c_11]; done) | (simp only [c_11, ↓reduceIte, if_true, if_false, and_self, true_and]; done) | grind [])
    | succ d ih =>
      intro k hk  H locs ls hP hS hl
      have hkn : k < n := by omega
      refine lv_iload_n hx hb dX11_plumb_4 rfl (lv_at hl 0 rfl) ?_
      refine lv_aload_n hx hb dX11_plumb_5 rfl (lv_at hl 2 rfl) ?_
      refine gf S G hP 276 0 (by decide) oM rfl inX11 (by decide) fl_RX11_9 rfl rfl dX11_plumb_6 ?_
      refine lv_iconst (v := 0) hx hb dX11_plumb_9 (by decide) ?_
      refine ald S G hP 277 0 (by decide) (aM277 _) (by decide) (by omega) (by decide) dX11_plumb_10 ?_
      refine lv_icmp_ge (tgt := 32) hx hb dX11_plumb_11 (by decide) (fun c_11 => absurd c_11 (by rw [hn]; exact nI_ge (by omega) (by omega))) (fun c_11 => ?_)
      refine lv_aload_n hx hb dX11_plumb_14 rfl (lv_at hl 2 rfl) ?_
      refine lv_iload_n hx hb dX11_plumb_15 rfl (lv_at hl 0 rfl) ?_
      refine lv_iconst (v := 0) hx hb dX11_plumb_16 (by decide) ?_
      refine cVie (As := [.int (nI k), .int (nI 0)]) S G 276 (c_X11_of l (D := D) (ct := ct) (ek := ek) (ad := ad) (N0 := N0) (X := X) (F := F) σ k (by omega) 0 (by omega)) ok_yX11_of ml_RX11_83 (by decide) oM rfl hP hS hl.1 rfl (by decide) rfl rfl (Nat.le_of_ble_eq_true rfl) ⟨Nat.zero_le _, Nat.zero_le _⟩ dX11_plumb_17 (fun H locs hP hS => ?_)
      refine lv_if_ne (tgt := 26) hx hb dX11_plumb_20 (by decide) (fun c_20 => ?_) (fun c_20 => ?_)
      · refine lv_iinc (v := nI (k + 1)) (lv' := [(2, .int (nI (k + 1))), (1, .int (plmR (fun q => σ 277 (6 + 5 * q + 0)) k)), (0, .ref (ad 276))]) hx hb dX11_plumb_26 hl (k := 0) rfl (nI_inc _) (by decide) rfl (fun ls hl => ?_)
        refine lv_goto (tgt := 4) hx hb dX11_plumb_29 (by decide) ?_
        exact ih (k + 1) (by omega)  _ _ _ hP hS (lv_v (lv_sub (l' := [(2, .int (nI (k + 1))), (1, .int (plmR (fun q => σ 277 (6 + 5 * q + 0)) k)), (0, .ref (ad 276))]) hl [0, 1, 2] rfl) (by rw [show plmR (fun q => σ 277 (6 + 5 * q + 0)) (k + 1) = plmR (fun q => σ 277 (6 + 5 * q + 0)) k from if_neg c_20]))
      · refine lv_iinc (v := (plmR (fun q => σ 277 (6 + 5 * q + 0)) k) + 1) (lv' := [(1, .int ((plmR (fun q => σ 277 (6 + 5 * q + 0)) k) + 1)), (2, .int (nI k)), (0, .ref (ad 276))]) hx hb dX11_plumb_23 hl (k := 1) rfl rfl (by decide) rfl (fun ls hl => ?_)
        refine lv_iinc (v := nI (k + 1)) (lv' := [(2, .int (nI (k + 1))), (1, .int ((plmR (fun q => σ 277 (6 + 5 * q + 0)) k) + 1)), (0, .ref (ad 276))]) hx hb dX11_plumb_26 hl (k := 1) rfl (nI_inc _) (by decide) rfl (fun ls hl => ?_)
        refine lv_goto (tgt := 4) hx hb dX11_plumb_29 (by decide) ?_
        exact ih (k + 1) (by omega)  _ _ _ hP hS (lv_v (lv_sub (l' := [(2, .int (nI (k + 1))), (1, .int ((plmR (fun q => σ 277 (6 + 5 * q + 0)) k) + 1)), (0, .ref (ad 276))]) hl [0, 1, 2] rfl) (by rw [show plmR (fun q => σ 277 (6 + 5 * q + 0)) (k + 1) = (plmR (fun q => σ 277 (6 + 5 * q + 0)) k) + 1 from if_pos c_20]))
  exact key_4 n 0 (by omega)  _ _ _ hP hS (lv_v (lv_sub (l' := [(2, .int 0), (1, .int 0), (0, .ref (ad 276))]) hl [0, 1, 2] rfl) rfl)

theorem ok_yX11_undo : COK RX11 yX11_undo cX11_undo 2 (some .int) 0 := ⟨im_yX11_undo, se_RX11_yX11_undo, in_RX11, co_yX11_undo, ⟨rfl, by decide +kernel, by decide +kernel, by decide +kernel⟩, by decide⟩
set_option maxHeartbeats 1000000 in
set_option maxRecDepth 100000 in
theorem c_X11_undo (l : Launch) {D : va_G} {ct : Nat → ClassId} {ek ad : Nat → Nat} {N0 : Nat} {X : va_W} {F : State → Prop} (σ : Mem) (u : Nat) (hu : σ 276 4 = nI u) (hu8 : u ≤ 8) : MI l yX11_undo cX11_undo 2 (some .int) 1 D ct ek ad N0 X F [.ref (ad 276)] σ (fun r τ => r = undV u ∧ τ = undM σ u) := by
  refine ms0 (own := RX11) (by decide) rfl (Nat.le_of_ble_eq_true rfl) (fun p e s m args below meth c S hr hlocks hnm G hP hS ls hl => ?_)
  have hx := S.1
  have hb := S.2.1
  replace hl : lv_has ls 2 [(0, .ref (ad 276))] := hl
  refine lv_aload_n hx hb dX11_undo_0 rfl (lv_at hl 0 rfl) ?_
  refine lv_iconst (v := 0) hx hb dX11_undo_1 (by decide) ?_
  refine pf S G hP hS 276 20 (x := 0) tyX11 tyX11_ok nmX11 (by decide) oM rfl inX11 (by decide) fl_RX11_42 rfl rfl rfl rfl (Nat.le_of_ble_eq_true rfl) oM dX11_undo_2 (fun H locs hP hS => ?_)
  refine lv_aload_n hx hb dX11_undo_5 rfl (lv_at hl 0 rfl) ?_
  refine gf S G hP 276 4 (by decide) oM rfl inX11 (by decide) fl_RX11_45 rfl rfl dX11_undo_6 ?_
  refine lv_if_ne (tgt := 18) hx hb dX11_undo_9 (by decide) (fun c_9 => ?_) (fun c_9 => ?_)
  · have h0 : ¬ u = 0 := fun h => c_9 (by rw [show (sg σ 276 20 0) 276 4 = nI u by simp [sg_at, hu], h]; rfl)
    have hlt : u - 1 < 8 := by omega
    refine lv_aload_n hx hb dX11_undo_18 rfl (lv_at hl 0 rfl) ?_
    refine lv_dup hx hb dX11_undo_19 rfl ?_
    refine gf S G hP 276 4 (by decide) oM rfl inX11 (by decide) fl_RX11_45 rfl rfl dX11_undo_20 ?_
    refine lv_iconst (v := 1) hx hb dX11_undo_23 (by decide) ?_
    refine nsub hx hb u 1 dX11_undo_24 (by simp [sg_at, hu]) (by decide) (by omega) ?_
    refine pf S G hP hS 276 4 (x := nI (u - 1)) tyX11 tyX11_ok nmX11 (by decide) oM rfl inX11 (by decide) fl_RX11_45 rfl rfl rfl rfl (Nat.le_of_ble_eq_true rfl) oM dX11_undo_25 (fun H locs hP hS => ?_)
    refine lv_iconst (v := 0) hx hb dX11_undo_28 (by decide) ?_
    refine lv_istore_n (lv' := [(1, .int 0), (0, .ref (ad 276))]) hx hb dX11_undo_29 rfl hl (by decide) rfl (fun ls hl => ?_)
    have key_30 : ∀ (d k : Nat), k + d = 96 → ∀ (H : Heap) (locs : List Loc) (ls : Array Slot), wP D ct ek ad X (sb (sg (sg σ 276 20 0) 276 4 (nI (u - 1))) 277 (fil (fun q => σ 280 (96 * (u - 1) + q)) (σ 277) k)) H → va_S (fr N0) s.heap H locs → lv_has ls 2 [(1, .int (nI k)), (0, .ref (ad 276))] → W p l e (rmd 1 0 0) s m args below meth c H locs 0 0 (MQ below (wQi D ct ek ad N0 X (fun r τ => r = undV u ∧ τ = undM σ u)) args s 0 0 (fr N0)) (F0 m 30 ls []) := by
      intro d
      induction d with
      | zero =>
        intro k9 hk
        obtain rfl : 96 = k9 := by omega
        intro  H locs ls hP hS hl
        refine lv_iload_n hx hb dX11_undo_30 rfl (lv_at hl 0 rfl) ?_
        refine lv_bipush (v := 96) hx hb dX11_undo_31 (by decide) ?_
        refine lv_icmp_ge (tgt := 62) hx hb dX11_undo_33 (by decide) (fun c_33 => ?_) (fun c_33 => absurd (by decide) c_33)
        refine lv_aload_n hx hb dX11_undo_62 rfl (lv_at hl 1 rfl) ?_
        refine gf S G hP 276 4 (by decide) oM rfl inX11 (by decide) fl_RX11_45 rfl rfl dX11_undo_63 ?_
        refine lv_tope (y := nI (u - 1)) (by simp [sg_at, sbAp]) ?_
        exact eI S hr hlocks hP hS dX11_undo_66 (by first | (refine ⟨?_, ?_⟩ <;> simp only [undV, undM, thM, sg_sg, c_9, h0, c_33, ↓reduceIte, if_true, if_false, eq_self]; done) | (refine ⟨?_, rfl⟩; simp only [undV, undM, thM, sg_sg, c_9, h0, c_33, ↓reduceIte, if_true, if_false, eq_self]; done) | exact ⟨rfl, rfl⟩ | (refine ⟨?_, rfl⟩; simp [undV, undM, thM, sg_sg, c_9, h0, c_33]; done) | (simp [undV, undM, thM, sg_sg, c_9, h0, c_33]; done) | grind [undV, undM, thM, sg_sg])
      | succ d ih =>
        intro k hk  H locs ls hP hS hl
        have hkn : k < 96 := by omega
        refine lv_iload_n hx hb dX11_undo_30 rfl (lv_at hl 0 rfl) ?_
        refine lv_bipush (v := 96) hx hb dX11_undo_31 (by decide) ?_
        refine lv_icmp_ge (tgt := 62) hx hb dX11_undo_33 (by decide) (fun c_33 => absurd c_33 (nI_ge (b := 96) (by omega) (by omega))) (fun c_33 => ?_)
        refine lv_aload_n hx hb dX11_undo_36 rfl (lv_at hl 1 rfl) ?_
        refine gf S G hP 276 0 (by decide) oM rfl inX11 (by decide) fl_RX11_9 rfl rfl dX11_undo_37 ?_
        refine lv_iload_n hx hb dX11_undo_40 rfl (lv_at hl 0 rfl) ?_
        refine lv_aload_n hx hb dX11_undo_41 rfl (lv_at hl 1 rfl) ?_
        refine gf S G hP 276 3 (by decide) oM rfl inX11 (by decide) fl_RX11_19 rfl rfl dX11_undo_42 ?_
        refine lv_bipush (v := 96) hx hb dX11_undo_45 (by decide) ?_
        refine lv_aload_n hx hb dX11_undo_47 rfl (lv_at hl 1 rfl) ?_
        refine gf S G hP 276 4 (by decide) oM rfl inX11 (by decide) fl_RX11_45 rfl rfl dX11_undo_48 ?_
        refine nmul hx hb 96 (u - 1) dX11_undo_51 (by decide) (by simp [sg_at, sbAp]) ?_
        refine lv_iload_n hx hb dX11_undo_52 rfl (lv_at hl 0 rfl) ?_
        refine nadd hx hb (96 * (u - 1)) k dX11_undo_53 rfl rfl ?_
        refine ald S G hP 280 ((96 * (u - 1)) + k) (by decide) (aM280 _) rfl (by omega) (by decide) dX11_undo_54 ?_
        refine lv_tope (y := σ 280 (96 * (u - 1) + k)) (by simp [sg_at, sbAp]) ?_
        refine ast S G hP hS 277 k (by decide) aM277 rfl (by omega) (by decide) dX11_undo_55 (fun H locs hP hS => ?_)
        refine lv_iinc (v := nI (k + 1)) (lv' := [(1, .int (nI (k + 1))), (0, .ref (ad 276))]) hx hb dX11_undo_56 hl (k := 0) rfl (nI_inc _) (by decide) rfl (fun ls hl => ?_)
        refine lv_goto (tgt := 30) hx hb dX11_undo_59 (by decide) ?_
        exact ih (k + 1) (by omega)  _ _ _ (wP_e hP (by rw [sg_sb, fil_s rfl])) hS (by first | (refine lv_v (lv_sub (l' := [(1, .int (nI (k + 1))), (0, .ref (ad 276))]) hl [0, 1] rfl) ?_; simp [fo, undV, undM, thM, sg_sg, c_9, h0, c_33]; done) | exact lv_sub hl [0, 1] rfl)
    exact key_30 96 0 (by omega)  _ _ _ (wP_e hP (by funext c j; simp only [sbAp, fil_0, sg_at]; grind)) hS (lv_sub hl [0, 1] rfl)
  · have h0 : u = 0 := by rw [show (sg σ 276 20 0) 276 4 = nI u by simp [sg_at, hu]] at c_9; exact (nI_eq (b := 0) (by omega) (by decide)).mp c_9
    refine lv_aload_n hx hb dX11_undo_12 rfl (lv_at hl 0 rfl) ?_
    refine lv_iconst (v := 1) hx hb dX11_undo_13 (by decide) ?_
    refine cVie (As := [.int 1]) S G 276 (c_X11_raises l (D := D) (ct := ct) (ek := ek) (ad := ad) (N0 := N0) (X := X) (F := F) (sg σ 276 20 0) 1) ok_yX11_raises ml_RX11_64 (by decide) oM rfl hP hS hl.1 rfl (by decide) rfl rfl (Nat.le_of_ble_eq_true rfl) ⟨Nat.zero_le _, Nat.zero_le _⟩ dX11_undo_14 (fun H locs hP hS => ?_)
    exact eI S hr hlocks hP hS dX11_undo_17 (by first | (refine ⟨?_, ?_⟩ <;> simp only [undV, undM, thM, sg_sg, c_9, h0, ↓reduceIte, if_true, if_false, eq_self]; done) | (refine ⟨?_, rfl⟩; simp only [undV, undM, thM, sg_sg, c_9, h0, ↓reduceIte, if_true, if_false, eq_self]; done) | exact ⟨rfl, rfl⟩ | (refine ⟨?_, rfl⟩; simp [undV, undM, thM, sg_sg, c_9, h0]; done) | (simp [undV, undM, thM, sg_sg, c_9, h0]; done) | grind [undV, undM, thM, sg_sg])

theorem ok_yX11_save : COK RX11 yX11_save cX11_save 2 (some .int) 0 := ⟨im_yX11_save, se_RX11_yX11_save, in_RX11, co_yX11_save, ⟨rfl, by decide +kernel, by decide +kernel, by decide +kernel⟩, by decide⟩
set_option maxHeartbeats 1000000 in
set_option maxRecDepth 100000 in
theorem c_X11_save (l : Launch) {D : va_G} {ct : Nat → ClassId} {ek ad : Nat → Nat} {N0 : Nat} {X : va_W} {F : State → Prop} (σ : Mem) : MI l yX11_save cX11_save 2 (some .int) 0 D ct ek ad N0 X F [.ref (ad 276)] σ (fun r τ => r = σ 277 0 ∧ τ = savM σ) := by
  refine ms0 (own := RX11) (by decide) rfl (Nat.le_of_ble_eq_true rfl) (fun p e s m args below meth c S hr hlocks hnm G hP hS ls hl => ?_)
  have hx := S.1
  have hb := S.2.1
  replace hl : lv_has ls 2 [(0, .ref (ad 276))] := hl
  refine lv_aload_n hx hb dX11_save_0 rfl (lv_at hl 0 rfl) ?_
  refine lv_iconst (v := 0) hx hb dX11_save_1 (by decide) ?_
  refine pf S G hP hS 276 20 (x := 0) tyX11 tyX11_ok nmX11 (by decide) oM rfl inX11 (by decide) fl_RX11_42 rfl rfl rfl rfl (Nat.le_of_ble_eq_true rfl) oM dX11_save_2 (fun H locs hP hS => ?_)
  refine lv_aload_n hx hb dX11_save_5 rfl (lv_at hl 0 rfl) ?_
  refine lv_iconst (v := 1) hx hb dX11_save_6 (by decide) ?_
  refine pf S G hP hS 276 6 (x := 1) tyX11 tyX11_ok nmX11 (by decide) oM rfl inX11 (by decide) fl_RX11_255 rfl rfl rfl rfl (Nat.le_of_ble_eq_true rfl) oM dX11_save_7 (fun H locs hP hS => ?_)
  refine lv_iconst (v := 0) hx hb dX11_save_10 (by decide) ?_
  refine lv_istore_n (lv' := [(1, .int 0), (0, .ref (ad 276))]) hx hb dX11_save_11 rfl hl (by decide) rfl (fun ls hl => ?_)
  have key_12 : ∀ (d k : Nat), k + d = 96 → ∀ (H : Heap) (locs : List Loc) (ls : Array Slot), wP D ct ek ad X (sb (sg (sg σ 276 20 0) 276 6 1) 281 (fil (σ 277) (σ 281) k)) H → va_S (fr N0) s.heap H locs → lv_has ls 2 [(1, .int (nI k)), (0, .ref (ad 276))] → W p l e (rmd 0 0 0) s m args below meth c H locs 0 0 (MQ below (wQi D ct ek ad N0 X (fun r τ => r = σ 277 0 ∧ τ = savM σ)) args s 0 0 (fr N0)) (F0 m 12 ls []) := by
    intro d
    induction d with
    | zero =>
      intro k9 hk
      obtain rfl : 96 = k9 := by omega
      intro  H locs ls hP hS hl
      refine lv_iload_n hx hb dX11_save_12 rfl (lv_at hl 0 rfl) ?_
      refine lv_bipush (v := 96) hx hb dX11_save_13 (by decide) ?_
      refine lv_icmp_ge (tgt := 36) hx hb dX11_save_15 (by decide) (fun c_15 => ?_) (fun c_15 => absurd (by decide) c_15)
      refine lv_aload_n hx hb dX11_save_36 rfl (lv_at hl 1 rfl) ?_
      refine gf S G hP 276 0 (by decide) oM rfl inX11 (by decide) fl_RX11_9 rfl rfl dX11_save_37 ?_
      refine lv_iconst (v := 0) hx hb dX11_save_40 (by decide) ?_
      refine ald S G hP 277 0 (by decide) (aM277 _) (by decide) (by omega) (by decide) dX11_save_41 ?_
      refine lv_tope (y := σ 277 0) (by simp [sg_at, sbAp]) ?_
      exact eI S hr hlocks hP hS dX11_save_42 (by first | (refine ⟨?_, ?_⟩ <;> simp only [savM, thM, c_15, ↓reduceIte, if_true, if_false, eq_self]; done) | (refine ⟨?_, rfl⟩; simp only [savM, thM, c_15, ↓reduceIte, if_true, if_false, eq_self]; done) | exact ⟨rfl, rfl⟩ | (refine ⟨?_, rfl⟩; simp [savM, thM, c_15]; done) | (simp [savM, thM, c_15]; done) | grind [savM, thM])
    | succ d ih =>
      intro k hk  H locs ls hP hS hl
      have hkn : k < 96 := by omega
      refine lv_iload_n hx hb dX11_save_12 rfl (lv_at hl 0 rfl) ?_
      refine lv_bipush (v := 96) hx hb dX11_save_13 (by decide) ?_
      refine lv_icmp_ge (tgt := 36) hx hb dX11_save_15 (by decide) (fun c_15 => absurd c_15 (nI_ge (b := 96) (by omega) (by omega))) (fun c_15 => ?_)
      refine lv_aload_n hx hb dX11_save_18 rfl (lv_at hl 1 rfl) ?_
      refine gf S G hP 276 5 (by decide) oM rfl inX11 (by decide) fl_RX11_22 rfl rfl dX11_save_19 ?_
      refine lv_iload_n hx hb dX11_save_22 rfl (lv_at hl 0 rfl) ?_
      refine lv_aload_n hx hb dX11_save_23 rfl (lv_at hl 1 rfl) ?_
      refine gf S G hP 276 0 (by decide) oM rfl inX11 (by decide) fl_RX11_9 rfl rfl dX11_save_24 ?_
      refine lv_iload_n hx hb dX11_save_27 rfl (lv_at hl 0 rfl) ?_
      refine ald S G hP 277 k (by decide) (aM277 _) rfl (by omega) (by decide) dX11_save_28 ?_
      refine lv_tope (y := σ 277 k) (by simp [sg_at, sbAp]) ?_
      refine ast S G hP hS 281 k (by decide) aM281 rfl (by omega) (by decide) dX11_save_29 (fun H locs hP hS => ?_)
      refine lv_iinc (v := nI (k + 1)) (lv' := [(1, .int (nI (k + 1))), (0, .ref (ad 276))]) hx hb dX11_save_30 hl (k := 0) rfl (nI_inc _) (by decide) rfl (fun ls hl => ?_)
      refine lv_goto (tgt := 12) hx hb dX11_save_33 (by decide) ?_
      exact ih (k + 1) (by omega)  _ _ _ (wP_e hP (by rw [sg_sb, fil_s rfl])) hS (by first | exact lv_sub hl [0, 1] rfl | (refine lv_v (lv_sub (l' := [(1, .int (nI (k + 1))), (0, .ref (ad 276))]) hl [0, 1] rfl) ?_; simp [fo, savM, thM, c_15]; done))
  exact key_12 96 0 (by omega)  _ _ _ (wP_e hP (by funext c j; simp only [sbAp, fil_0, sg_at]; grind)) hS (lv_sub hl [0, 1] rfl)

theorem ok_yX11_restore : COK RX11 yX11_restore cX11_restore 2 (some .int) 0 := ⟨im_yX11_restore, se_RX11_yX11_restore, in_RX11, co_yX11_restore, ⟨rfl, by decide +kernel, by decide +kernel, by decide +kernel⟩, by decide⟩
set_option maxHeartbeats 1000000 in
set_option maxRecDepth 100000 in
theorem c_X11_restore (l : Launch) {D : va_G} {ct : Nat → ClassId} {ek ad : Nat → Nat} {N0 : Nat} {X : va_W} {F : State → Prop} (σ : Mem) : MI l yX11_restore cX11_restore 2 (some .int) 1 D ct ek ad N0 X F [.ref (ad 276)] σ (fun r τ => r = rstV σ ∧ τ = rstM σ) := by
  refine ms0 (own := RX11) (by decide) rfl (Nat.le_of_ble_eq_true rfl) (fun p e s m args below meth c S hr hlocks hnm G hP hS ls hl => ?_)
  have hx := S.1
  have hb := S.2.1
  replace hl : lv_has ls 2 [(0, .ref (ad 276))] := hl
  refine lv_aload_n hx hb dX11_restore_0 rfl (lv_at hl 0 rfl) ?_
  refine lv_iconst (v := 0) hx hb dX11_restore_1 (by decide) ?_
  refine pf S G hP hS 276 20 (x := 0) tyX11 tyX11_ok nmX11 (by decide) oM rfl inX11 (by decide) fl_RX11_42 rfl rfl rfl rfl (Nat.le_of_ble_eq_true rfl) oM dX11_restore_2 (fun H locs hP hS => ?_)
  refine lv_aload_n hx hb dX11_restore_5 rfl (lv_at hl 0 rfl) ?_
  refine gf S G hP 276 6 (by decide) oM rfl inX11 (by decide) fl_RX11_255 rfl rfl dX11_restore_6 ?_
  refine lv_if_ne (tgt := 18) hx hb dX11_restore_9 (by decide) (fun c_9 => ?_) (fun c_9 => ?_)
  · have h0 : ¬ σ 276 6 = 0 := by rw [show (sg σ 276 20 0) 276 6 = σ 276 6 by simp [sg_at]] at c_9; exact c_9
    refine lv_iconst (v := 0) hx hb dX11_restore_18 (by decide) ?_
    refine lv_istore_n (lv' := [(1, .int 0), (0, .ref (ad 276))]) hx hb dX11_restore_19 rfl hl (by decide) rfl (fun ls hl => ?_)
    have key_20 : ∀ (d k : Nat), k + d = 96 → ∀ (H : Heap) (locs : List Loc) (ls : Array Slot), wP D ct ek ad X (sb (sg σ 276 20 0) 277 (fil (σ 281) (σ 277) k)) H → va_S (fr N0) s.heap H locs → lv_has ls 2 [(1, .int (nI k)), (0, .ref (ad 276))] → W p l e (rmd 1 0 0) s m args below meth c H locs 0 0 (MQ below (wQi D ct ek ad N0 X (fun r τ => r = rstV σ ∧ τ = rstM σ)) args s 0 0 (fr N0)) (F0 m 20 ls []) := by
      intro d
      induction d with
      | zero =>
        intro k9 hk
        obtain rfl : 96 = k9 := by omega
        intro  H locs ls hP hS hl
        refine lv_iload_n hx hb dX11_restore_20 rfl (lv_at hl 0 rfl) ?_
        refine lv_bipush (v := 96) hx hb dX11_restore_21 (by decide) ?_
        refine lv_icmp_ge (tgt := 44) hx hb dX11_restore_23 (by decide) (fun c_23 => ?_) (fun c_23 => absurd (by decide) c_23)
        refine lv_aload_n hx hb dX11_restore_44 rfl (lv_at hl 1 rfl) ?_
        refine lv_iconst (v := 0) hx hb dX11_restore_45 (by decide) ?_
        refine pf S G hP hS 276 4 (x := 0) tyX11 tyX11_ok nmX11 (by decide) oM rfl inX11 (by decide) fl_RX11_45 rfl rfl rfl rfl (Nat.le_of_ble_eq_true rfl) oM dX11_restore_46 (fun H locs hP hS => ?_)
        refine lv_aload_n hx hb dX11_restore_49 rfl (lv_at hl 1 rfl) ?_
        refine gf S G hP 276 0 (by decide) oM rfl inX11 (by decide) fl_RX11_9 rfl rfl dX11_restore_50 ?_
        refine lv_iconst (v := 0) hx hb dX11_restore_53 (by decide) ?_
        refine ald S G hP 277 0 (by decide) (aM277 _) (by decide) (by omega) (by decide) dX11_restore_54 ?_
        refine lv_tope (y := σ 281 0) (by simp [sg_at, sbAp, fil]) ?_
        exact eI S hr hlocks hP hS dX11_restore_55 (by first | (refine ⟨?_, ?_⟩ <;> simp only [rstV, rstM, thM, sg_sg, c_9, h0, c_23, ↓reduceIte, if_true, if_false, eq_self]; done) | (refine ⟨?_, rfl⟩; simp only [rstV, rstM, thM, sg_sg, c_9, h0, c_23, ↓reduceIte, if_true, if_false, eq_self]; done) | exact ⟨rfl, rfl⟩ | (refine ⟨?_, rfl⟩; simp [rstV, rstM, thM, sg_sg, c_9, h0, c_23]; done) | (simp [rstV, rstM, thM, sg_sg, c_9, h0, c_23]; done) | grind [rstV, rstM, thM, sg_sg])
      | succ d ih =>
        intro k hk  H locs ls hP hS hl
        have hkn : k < 96 := by omega
        refine lv_iload_n hx hb dX11_restore_20 rfl (lv_at hl 0 rfl) ?_
        refine lv_bipush (v := 96) hx hb dX11_restore_21 (by decide) ?_
        refine lv_icmp_ge (tgt := 44) hx hb dX11_restore_23 (by decide) (fun c_23 => absurd c_23 (nI_ge (b := 96) (by omega) (by omega))) (fun c_23 => ?_)
        refine lv_aload_n hx hb dX11_restore_26 rfl (lv_at hl 1 rfl) ?_
        refine gf S G hP 276 0 (by decide) oM rfl inX11 (by decide) fl_RX11_9 rfl rfl dX11_restore_27 ?_
        refine lv_iload_n hx hb dX11_restore_30 rfl (lv_at hl 0 rfl) ?_
        refine lv_aload_n hx hb dX11_restore_31 rfl (lv_at hl 1 rfl) ?_
        refine gf S G hP 276 5 (by decide) oM rfl inX11 (by decide) fl_RX11_22 rfl rfl dX11_restore_32 ?_
        refine lv_iload_n hx hb dX11_restore_35 rfl (lv_at hl 0 rfl) ?_
        refine ald S G hP 281 k (by decide) (aM281 _) rfl (by omega) (by decide) dX11_restore_36 ?_
        refine lv_tope (y := σ 281 k) (by simp [sg_at, sbAp]) ?_
        refine ast S G hP hS 277 k (by decide) aM277 rfl (by omega) (by decide) dX11_restore_37 (fun H locs hP hS => ?_)
        refine lv_iinc (v := nI (k + 1)) (lv' := [(1, .int (nI (k + 1))), (0, .ref (ad 276))]) hx hb dX11_restore_38 hl (k := 0) rfl (nI_inc _) (by decide) rfl (fun ls hl => ?_)
        refine lv_goto (tgt := 20) hx hb dX11_restore_41 (by decide) ?_
        exact ih (k + 1) (by omega)  _ _ _ (wP_e hP (by rw [sg_sb, fil_s rfl])) hS (by first | (refine lv_v (lv_sub (l' := [(1, .int (nI (k + 1))), (0, .ref (ad 276))]) hl [0, 1] rfl) ?_; simp [fo, rstV, rstM, thM, sg_sg, c_9, h0, c_23]; done) | exact lv_sub hl [0, 1] rfl)
    exact key_20 96 0 (by omega)  _ _ _ (wP_e hP (by funext c j; simp only [sbAp, fil_0, sg_at]; grind)) hS (lv_sub hl [0, 1] rfl)
  · have h0 : σ 276 6 = 0 := by rw [show (sg σ 276 20 0) 276 6 = σ 276 6 by simp [sg_at]] at c_9; exact c_9
    refine lv_aload_n hx hb dX11_restore_12 rfl (lv_at hl 0 rfl) ?_
    refine lv_iconst (v := 1) hx hb dX11_restore_13 (by decide) ?_
    refine cVie (As := [.int 1]) S G 276 (c_X11_raises l (D := D) (ct := ct) (ek := ek) (ad := ad) (N0 := N0) (X := X) (F := F) (sg σ 276 20 0) 1) ok_yX11_raises ml_RX11_64 (by decide) oM rfl hP hS hl.1 rfl (by decide) rfl rfl (Nat.le_of_ble_eq_true rfl) ⟨Nat.zero_le _, Nat.zero_le _⟩ dX11_restore_14 (fun H locs hP hS => ?_)
    exact eI S hr hlocks hP hS dX11_restore_17 (by first | (refine ⟨?_, ?_⟩ <;> simp only [rstV, rstM, thM, sg_sg, c_9, h0, ↓reduceIte, if_true, if_false, eq_self]; done) | (refine ⟨?_, rfl⟩; simp only [rstV, rstM, thM, sg_sg, c_9, h0, ↓reduceIte, if_true, if_false, eq_self]; done) | exact ⟨rfl, rfl⟩ | (refine ⟨?_, rfl⟩; simp [rstV, rstM, thM, sg_sg, c_9, h0]; done) | (simp [rstV, rstM, thM, sg_sg, c_9, h0]; done) | grind [rstV, rstM, thM, sg_sg])

/-! People: the walks, on (laid by wip/p43/spec_people3.py) -/
theorem ok_yX8_meanByAdding : COK RX8 yX8_meanByAdding cX8_meanByAdding 7 (some .int) 1 := ⟨im_yX8_meanByAdding, se_RX8_yX8_meanByAdding, in_RX8, co_yX8_meanByAdding, ⟨rfl, by decide +kernel, by decide +kernel, by decide +kernel⟩, by decide⟩
set_option maxHeartbeats 1000000 in
set_option maxRecDepth 100000 in
theorem c_X8_meanByAdding (l : Launch) {D : va_G} {ct : Nat → ClassId} {ek ad : Nat → Nat} {N0 : Nat} {X : va_W} {F : State → Prop} (σ : Mem) (pb : Nat) (hpb : isP pb) (i : Nat) (hi : i < 6) (n : Nat) (hn : σ pb 7 = nI n) (hn6 : n ≤ 6) (u : Nat → Nat) (hu : ∀ q, q < n → (if q = i then σ (pb + 2) i + 1 else σ (pb + 7 + i) q) = nI (u q)) (hu9 : ∀ q, q < n → u q ≤ 10) : MI l yX8_meanByAdding cX8_meanByAdding 7 (some .int) 0 D ct ek ad N0 X F [.ref (ad pb), .int (nI i)] σ (fun r τ => r = mAddV (σ (pb + 1)) u n ∧ τ = σ) := by
  refine ms0 (own := RX8) (by decide) rfl (Nat.le_of_ble_eq_true rfl) (fun p e s m args below meth c S hr hlocks hnm G hP hS ls hl => ?_)
  have hx := S.1
  have hb := S.2.1
  replace hl : lv_has ls 7 [(0, .ref (ad pb)), (1, .int (nI i))] := hl
  refine lv_iconst (v := 0) hx hb dX8_meanByAdding_0 (by decide) ?_
  refine lv_istore_n (lv' := [(2, .int 0), (0, .ref (ad pb)), (1, .int (nI i))]) hx hb dX8_meanByAdding_1 rfl hl (by decide) rfl (fun ls hl => ?_)
  refine lv_iconst (v := 0) hx hb dX8_meanByAdding_2 (by decide) ?_
  refine lv_istore_n (lv' := [(3, .int 0), (2, .int 0), (0, .ref (ad pb)), (1, .int (nI i))]) hx hb dX8_meanByAdding_3 rfl hl (by decide) rfl (fun ls hl => ?_)
  refine lv_iconst (v := 0) hx hb dX8_meanByAdding_4 (by decide) ?_
  refine lv_istore (lv' := [(4, .int 0), (3, .int 0), (2, .int 0), (0, .ref (ad pb)), (1, .int (nI i))]) hx hb dX8_meanByAdding_5 hl (by decide) rfl (fun ls hl => ?_)
  have key_7 : ∀ (d k : Nat), k + d = n → ∀ (H : Heap) (locs : List Loc) (ls : Array Slot), wP D ct ek ad X σ H → va_S (fr N0) s.heap H locs → lv_has ls 7 [(4, .int (nI k)), (3, .int (addSV (σ (pb + 1)) u k)), (2, .int (addPV u k)), (0, .ref (ad pb)), (1, .int (nI i))] → W p l e (rmd 0 0 0) s m args below meth c H locs 0 0 (MQ below (wQi D ct ek ad N0 X (fun r τ => r = mAddV (σ (pb + 1)) u n ∧ τ = σ)) args s 0 0 (fr N0)) (F0 m 7 ls []) := by
    intro d
    induction d with
    | zero =>
      intro k9 hk
      obtain rfl : n = k9 := by omega
      intro  H locs ls hP hS hl
      refine lv_iload hx hb dX8_meanByAdding_7 (lv_at hl 0 rfl) ?_
      refine lv_aload_n hx hb dX8_meanByAdding_9 rfl (lv_at hl 3 rfl) ?_
      refine gf S G hP pb 7 (isPl0 hpb) (oP hpb) rfl inX8 (by decide) fl_RX8_40 rfl rfl dX8_meanByAdding_10 ?_
      refine lv_icmp_ge (tgt := 79) hx hb dX8_meanByAdding_13 (by decide) (fun c_13 => ?_) (fun c_13 => absurd (by rw [hn]; exact nI_le (by omega) (by omega)) c_13)
      refine lv_iload_n hx hb dX8_meanByAdding_79 rfl (lv_at hl 2 rfl) ?_
      refine lv_iconst (v := 1) hx hb dX8_meanByAdding_80 (by decide) ?_
      refine lv_icmp_ge (tgt := 88) hx hb dX8_meanByAdding_81 (by decide) (fun c_81 => ?_) (fun c_81 => ?_)
      · refine lv_iload_n hx hb dX8_meanByAdding_88 rfl (lv_at hl 1 rfl) ?_
        refine lv_iload_n hx hb dX8_meanByAdding_89 rfl (lv_at hl 2 rfl) ?_
        refine lv_idiv hx hb dX8_meanByAdding_90 (by intro h9; rw [h9] at c_81; exact absurd c_81 (by decide)) ?_
        exact eI S hr hlocks hP hS dX8_meanByAdding_91 (by first | (refine ⟨?_, ?_⟩ <;> simp only [mAddV, c_13, c_81, ↓reduceIte, if_true, if_false, eq_self]; done) | (refine ⟨?_, rfl⟩; simp only [mAddV, c_13, c_81, ↓reduceIte, if_true, if_false, eq_self]; done) | exact ⟨rfl, rfl⟩ | (refine ⟨?_, rfl⟩; simp [mAddV, c_13, c_81]; done) | (simp [mAddV, c_13, c_81]; done) | grind [mAddV])
      · refine lv_iconst (v := 0) hx hb dX8_meanByAdding_84 (by decide) ?_
        refine lv_goto (tgt := 91) hx hb dX8_meanByAdding_85 (by decide) ?_
        exact eI S hr hlocks hP hS dX8_meanByAdding_91 (by first | (refine ⟨?_, ?_⟩ <;> simp only [mAddV, c_13, c_81, ↓reduceIte, if_true, if_false, eq_self]; done) | (refine ⟨?_, rfl⟩; simp only [mAddV, c_13, c_81, ↓reduceIte, if_true, if_false, eq_self]; done) | exact ⟨rfl, rfl⟩ | (refine ⟨?_, rfl⟩; simp [mAddV, c_13, c_81]; done) | (simp [mAddV, c_13, c_81]; done) | grind [mAddV])
    | succ d ih =>
      intro k hk  H locs ls hP hS hl
      have hkn : k < n := by omega
      refine lv_iload hx hb dX8_meanByAdding_7 (lv_at hl 0 rfl) ?_
      refine lv_aload_n hx hb dX8_meanByAdding_9 rfl (lv_at hl 3 rfl) ?_
      refine gf S G hP pb 7 (isPl0 hpb) (oP hpb) rfl inX8 (by decide) fl_RX8_40 rfl rfl dX8_meanByAdding_10 ?_
      refine lv_icmp_ge (tgt := 79) hx hb dX8_meanByAdding_13 (by decide) (fun c_13 => absurd c_13 (by rw [hn]; exact nI_ge (by omega) (by omega))) (fun c_13 => ?_)
      refine lv_iload hx hb dX8_meanByAdding_16 (lv_at hl 0 rfl) ?_
      refine lv_iload_n hx hb dX8_meanByAdding_18 rfl (lv_at hl 4 rfl) ?_
      refine lv_icmp_ne (tgt := 33) hx hb dX8_meanByAdding_19 (by decide) (fun c_19 => ?_) (fun c_19 => ?_)
      · refine lv_aload_n hx hb dX8_meanByAdding_33 rfl (lv_at hl 3 rfl) ?_
        refine gf S G hP pb 5 (isPl0 hpb) (oP hpb) rfl inX8 (by decide) fl_RX8_28 rfl rfl dX8_meanByAdding_34 ?_
        refine lv_iload_n hx hb dX8_meanByAdding_37 rfl (lv_at hl 4 rfl) ?_
        refine gld S G hP (pb + 6) i (isPl hpb (by decide)) ((gP6 hpb) _) rfl (by omega) (by decide) (if_pos (by omega)) dX8_meanByAdding_38 ?_
        refine lv_iload hx hb dX8_meanByAdding_39 (lv_at hl 0 rfl) ?_
        refine ald S G hP (pb + 7 + i) k (isPlw hpb (by omega)) ((aPw hpb (by omega)) _) rfl (by omega) (by decide) dX8_meanByAdding_41 ?_
        have ht : σ (pb + 7 + i) k = nI (u k) := by have h8 := hu k hkn; rw [if_neg (fun h7 => c_19 (congrArg nI h7))] at h8; exact h8
        refine lv_istore (lv' := [(5, .int (σ (pb + 7 + i) k)), (4, .int (nI k)), (3, .int (addSV (σ (pb + 1)) u k)), (2, .int (addPV u k)), (0, .ref (ad pb)), (1, .int (nI i))]) hx hb dX8_meanByAdding_42 hl (by decide) rfl (fun ls hl => ?_)
        refine lv_iconst (v := 0) hx hb dX8_meanByAdding_44 (by decide) ?_
        refine lv_istore (lv' := [(6, .int 0), (5, .int (σ (pb + 7 + i) k)), (4, .int (nI k)), (3, .int (addSV (σ (pb + 1)) u k)), (2, .int (addPV u k)), (0, .ref (ad pb)), (1, .int (nI i))]) hx hb dX8_meanByAdding_45 hl (by decide) rfl (fun ls hl => ?_)
        have key_47 : ∀ (d2 t : Nat), t + d2 = u k → ∀ (H : Heap) (locs : List Loc) (ls : Array Slot), wP D ct ek ad X σ H → va_S (fr N0) s.heap H locs → lv_has ls 7 [(6, .int (nI t)), (5, .int (σ (pb + 7 + i) k)), (4, .int (nI k)), (3, .int (fo (fun _ b => b + σ (pb + 1) k) (addSV (σ (pb + 1)) u k) t)), (2, .int (fo (fun _ b => b + 1) (addPV u k) t)), (0, .ref (ad pb)), (1, .int (nI i))] → W p l e (rmd 0 0 0) s m args below meth c H locs 0 0 (MQ below (wQi D ct ek ad N0 X (fun r τ => r = mAddV (σ (pb + 1)) u n ∧ τ = σ)) args s 0 0 (fr N0)) (F0 m 47 ls []) := by
          intro d2
          induction d2 with
          | zero =>
            intro k9 hk
            obtain rfl : u k = k9 := by omega
            intro  H locs ls hP hS hl
            refine lv_iload hx hb dX8_meanByAdding_47 (lv_at hl 0 rfl) ?_
            refine lv_iload hx hb dX8_meanByAdding_49 (lv_at hl 1 rfl) ?_
            refine lv_icmp_ge (tgt := 73) hx hb dX8_meanByAdding_51 (by decide) (fun c_51 => ?_) (fun c_51 => absurd (by rw [ht]; exact nI_le (by omega) (by have := hu9 k hkn; omega)) c_51)
            refine lv_iinc (v := nI (k + 1)) (lv' := [(4, .int (nI (k + 1))), (6, .int (nI (u k))), (5, .int (σ (pb + 7 + i) k)), (3, .int (fo (fun _ b => b + σ (pb + 1) k) (addSV (σ (pb + 1)) u k) (u k))), (2, .int (fo (fun _ b => b + 1) (addPV u k) (u k))), (0, .ref (ad pb)), (1, .int (nI i))]) hx hb dX8_meanByAdding_73 hl (k := 2) rfl (nI_inc _) (by decide) rfl (fun ls hl => ?_)
            refine lv_goto (tgt := 7) hx hb dX8_meanByAdding_76 (by decide) ?_
            exact ih (k + 1) (by omega)  _ _ _ hP hS (by first | (refine lv_v (lv_sub (l' := [(4, .int (nI (k + 1))), (3, .int (fo (fun _ b => b + σ (pb + 1) k) (addSV (σ (pb + 1)) u k) (u k))), (2, .int (fo (fun _ b => b + 1) (addPV u k) (u k))), (0, .ref (ad pb)), (1, .int (nI i))]) hl [0, 3, 4, 5, 6] rfl) ?_; simp [fo, mAddV, c_13, c_19, c_51]; done) | exact lv_sub hl [0, 3, 4, 5, 6] rfl)
          | succ d2 ih =>
            intro t hk  H locs ls hP hS hl
            have htn : t < u k := by omega
            refine lv_iload hx hb dX8_meanByAdding_47 (lv_at hl 0 rfl) ?_
            refine lv_iload hx hb dX8_meanByAdding_49 (lv_at hl 1 rfl) ?_
            refine lv_icmp_ge (tgt := 73) hx hb dX8_meanByAdding_51 (by decide) (fun c_51 => absurd c_51 (by rw [ht]; exact nI_ge (by omega) (by have := hu9 k hkn; omega))) (fun c_51 => ?_)
            refine lv_iload_n hx hb dX8_meanByAdding_54 rfl (lv_at hl 3 rfl) ?_
            refine lv_aload_n hx hb dX8_meanByAdding_55 rfl (lv_at hl 5 rfl) ?_
            refine gf S G hP pb 0 (isPl0 hpb) (oP hpb) rfl inX8 (by decide) fl_RX8_9 rfl rfl dX8_meanByAdding_56 ?_
            refine lv_iload hx hb dX8_meanByAdding_59 (lv_at hl 2 rfl) ?_
            refine ald S G hP (pb + 1) k (isPl hpb (by decide)) ((aP1 hpb) _) rfl (by omega) (by decide) dX8_meanByAdding_61 ?_
            refine lv_iadd hx hb dX8_meanByAdding_62 ?_
            refine lv_istore_n (lv' := [(3, .int ((fo (fun _ b => b + σ (pb + 1) k) (addSV (σ (pb + 1)) u k) t) + (σ (pb + 1) k))), (6, .int (nI t)), (5, .int (σ (pb + 7 + i) k)), (4, .int (nI k)), (2, .int (fo (fun _ b => b + 1) (addPV u k) t)), (0, .ref (ad pb)), (1, .int (nI i))]) hx hb dX8_meanByAdding_63 rfl hl (by decide) rfl (fun ls hl => ?_)
            refine lv_iinc (v := (fo (fun _ b => b + 1) (addPV u k) t) + 1) (lv' := [(2, .int ((fo (fun _ b => b + 1) (addPV u k) t) + 1)), (3, .int ((fo (fun _ b => b + σ (pb + 1) k) (addSV (σ (pb + 1)) u k) t) + (σ (pb + 1) k))), (6, .int (nI t)), (5, .int (σ (pb + 7 + i) k)), (4, .int (nI k)), (0, .ref (ad pb)), (1, .int (nI i))]) hx hb dX8_meanByAdding_64 hl (k := 4) rfl rfl (by decide) rfl (fun ls hl => ?_)
            refine lv_iinc (v := nI (t + 1)) (lv' := [(6, .int (nI (t + 1))), (2, .int ((fo (fun _ b => b + 1) (addPV u k) t) + 1)), (3, .int ((fo (fun _ b => b + σ (pb + 1) k) (addSV (σ (pb + 1)) u k) t) + (σ (pb + 1) k))), (5, .int (σ (pb + 7 + i) k)), (4, .int (nI k)), (0, .ref (ad pb)), (1, .int (nI i))]) hx hb dX8_meanByAdding_67 hl (k := 2) rfl (nI_inc _) (by decide) rfl (fun ls hl => ?_)
            refine lv_goto (tgt := 47) hx hb dX8_meanByAdding_70 (by decide) ?_
            exact ih (t + 1) (by omega)  _ _ _ hP hS (by first | (refine lv_v (lv_sub (l' := [(6, .int (nI (t + 1))), (5, .int (σ (pb + 7 + i) k)), (4, .int (nI k)), (3, .int ((fo (fun _ b => b + σ (pb + 1) k) (addSV (σ (pb + 1)) u k) t) + (σ (pb + 1) k))), (2, .int ((fo (fun _ b => b + 1) (addPV u k) t) + 1)), (0, .ref (ad pb)), (1, .int (nI i))]) hl [0, 3, 4, 2, 1, 5, 6] rfl) ?_; simp [fo, mAddV, c_13, c_19, c_51]; done) | exact lv_sub hl [0, 3, 4, 2, 1, 5, 6] rfl)
        exact key_47 (u k) 0 (by omega)  _ _ _ hP hS (lv_sub hl [0, 1, 2, 3, 4, 5, 6] rfl)
      · refine lv_aload_n hx hb dX8_meanByAdding_22 rfl (lv_at hl 3 rfl) ?_
        refine gf S G hP pb 1 (isPl0 hpb) (oP hpb) rfl inX8 (by decide) fl_RX8_13 rfl rfl dX8_meanByAdding_23 ?_
        refine lv_iload_n hx hb dX8_meanByAdding_26 rfl (lv_at hl 4 rfl) ?_
        refine ald S G hP (pb + 2) i (isPl hpb (by decide)) ((aP2 hpb) _) rfl (by omega) (by decide) dX8_meanByAdding_27 ?_
        refine lv_iconst (v := 1) hx hb dX8_meanByAdding_28 (by decide) ?_
        refine lv_iadd hx hb dX8_meanByAdding_29 ?_
        refine lv_goto (tgt := 42) hx hb dX8_meanByAdding_30 (by decide) ?_
        have ht : (σ (pb + 2) i) + 1 = nI (u k) := by have h8 := hu k hkn; rw [if_pos ((nI_eq (by omega) (by omega)).mp c_19)] at h8; exact h8
        refine lv_istore (lv' := [(5, .int ((σ (pb + 2) i) + 1)), (4, .int (nI k)), (3, .int (addSV (σ (pb + 1)) u k)), (2, .int (addPV u k)), (0, .ref (ad pb)), (1, .int (nI i))]) hx hb dX8_meanByAdding_42 hl (by decide) rfl (fun ls hl => ?_)
        refine lv_iconst (v := 0) hx hb dX8_meanByAdding_44 (by decide) ?_
        refine lv_istore (lv' := [(6, .int 0), (5, .int ((σ (pb + 2) i) + 1)), (4, .int (nI k)), (3, .int (addSV (σ (pb + 1)) u k)), (2, .int (addPV u k)), (0, .ref (ad pb)), (1, .int (nI i))]) hx hb dX8_meanByAdding_45 hl (by decide) rfl (fun ls hl => ?_)
        have key_47 : ∀ (d2 t : Nat), t + d2 = u k → ∀ (H : Heap) (locs : List Loc) (ls : Array Slot), wP D ct ek ad X σ H → va_S (fr N0) s.heap H locs → lv_has ls 7 [(6, .int (nI t)), (5, .int ((σ (pb + 2) i) + 1)), (4, .int (nI k)), (3, .int (fo (fun _ b => b + σ (pb + 1) k) (addSV (σ (pb + 1)) u k) t)), (2, .int (fo (fun _ b => b + 1) (addPV u k) t)), (0, .ref (ad pb)), (1, .int (nI i))] → W p l e (rmd 0 0 0) s m args below meth c H locs 0 0 (MQ below (wQi D ct ek ad N0 X (fun r τ => r = mAddV (σ (pb + 1)) u n ∧ τ = σ)) args s 0 0 (fr N0)) (F0 m 47 ls []) := by
          intro d2
          induction d2 with
          | zero =>
            intro k9 hk
            obtain rfl : u k = k9 := by omega
            intro  H locs ls hP hS hl
            refine lv_iload hx hb dX8_meanByAdding_47 (lv_at hl 0 rfl) ?_
            refine lv_iload hx hb dX8_meanByAdding_49 (lv_at hl 1 rfl) ?_
            refine lv_icmp_ge (tgt := 73) hx hb dX8_meanByAdding_51 (by decide) (fun c_51 => ?_) (fun c_51 => absurd (by rw [ht]; exact nI_le (by omega) (by have := hu9 k hkn; omega)) c_51)
            refine lv_iinc (v := nI (k + 1)) (lv' := [(4, .int (nI (k + 1))), (6, .int (nI (u k))), (5, .int ((σ (pb + 2) i) + 1)), (3, .int (fo (fun _ b => b + σ (pb + 1) k) (addSV (σ (pb + 1)) u k) (u k))), (2, .int (fo (fun _ b => b + 1) (addPV u k) (u k))), (0, .ref (ad pb)), (1, .int (nI i))]) hx hb dX8_meanByAdding_73 hl (k := 2) rfl (nI_inc _) (by decide) rfl (fun ls hl => ?_)
            refine lv_goto (tgt := 7) hx hb dX8_meanByAdding_76 (by decide) ?_
            exact ih (k + 1) (by omega)  _ _ _ hP hS (by first | (refine lv_v (lv_sub (l' := [(4, .int (nI (k + 1))), (3, .int (fo (fun _ b => b + σ (pb + 1) k) (addSV (σ (pb + 1)) u k) (u k))), (2, .int (fo (fun _ b => b + 1) (addPV u k) (u k))), (0, .ref (ad pb)), (1, .int (nI i))]) hl [0, 3, 4, 5, 6] rfl) ?_; simp [fo, mAddV, c_13, c_19, c_51]; done) | exact lv_sub hl [0, 3, 4, 5, 6] rfl)
          | succ d2 ih =>
            intro t hk  H locs ls hP hS hl
            have htn : t < u k := by omega
            refine lv_iload hx hb dX8_meanByAdding_47 (lv_at hl 0 rfl) ?_
            refine lv_iload hx hb dX8_meanByAdding_49 (lv_at hl 1 rfl) ?_
            refine lv_icmp_ge (tgt := 73) hx hb dX8_meanByAdding_51 (by decide) (fun c_51 => absurd c_51 (by rw [ht]; exact nI_ge (by omega) (by have := hu9 k hkn; omega))) (fun c_51 => ?_)
            refine lv_iload_n hx hb dX8_meanByAdding_54 rfl (lv_at hl 3 rfl) ?_
            refine lv_aload_n hx hb dX8_meanByAdding_55 rfl (lv_at hl 5 rfl) ?_
            refine gf S G hP pb 0 (isPl0 hpb) (oP hpb) rfl inX8 (by decide) fl_RX8_9 rfl rfl dX8_meanByAdding_56 ?_
            refine lv_iload hx hb dX8_meanByAdding_59 (lv_at hl 2 rfl) ?_
            refine ald S G hP (pb + 1) k (isPl hpb (by decide)) ((aP1 hpb) _) rfl (by omega) (by decide) dX8_meanByAdding_61 ?_
            refine lv_iadd hx hb dX8_meanByAdding_62 ?_
            refine lv_istore_n (lv' := [(3, .int ((fo (fun _ b => b + σ (pb + 1) k) (addSV (σ (pb + 1)) u k) t) + (σ (pb + 1) k))), (6, .int (nI t)), (5, .int ((σ (pb + 2) i) + 1)), (4, .int (nI k)), (2, .int (fo (fun _ b => b + 1) (addPV u k) t)), (0, .ref (ad pb)), (1, .int (nI i))]) hx hb dX8_meanByAdding_63 rfl hl (by decide) rfl (fun ls hl => ?_)
            refine lv_iinc (v := (fo (fun _ b => b + 1) (addPV u k) t) + 1) (lv' := [(2, .int ((fo (fun _ b => b + 1) (addPV u k) t) + 1)), (3, .int ((fo (fun _ b => b + σ (pb + 1) k) (addSV (σ (pb + 1)) u k) t) + (σ (pb + 1) k))), (6, .int (nI t)), (5, .int ((σ (pb + 2) i) + 1)), (4, .int (nI k)), (0, .ref (ad pb)), (1, .int (nI i))]) hx hb dX8_meanByAdding_64 hl (k := 4) rfl rfl (by decide) rfl (fun ls hl => ?_)
            refine lv_iinc (v := nI (t + 1)) (lv' := [(6, .int (nI (t + 1))), (2, .int ((fo (fun _ b => b + 1) (addPV u k) t) + 1)), (3, .int ((fo (fun _ b => b + σ (pb + 1) k) (addSV (σ (pb + 1)) u k) t) + (σ (pb + 1) k))), (5, .int ((σ (pb + 2) i) + 1)), (4, .int (nI k)), (0, .ref (ad pb)), (1, .int (nI i))]) hx hb dX8_meanByAdding_67 hl (k := 2) rfl (nI_inc _) (by decide) rfl (fun ls hl => ?_)
            refine lv_goto (tgt := 47) hx hb dX8_meanByAdding_70 (by decide) ?_
            exact ih (t + 1) (by omega)  _ _ _ hP hS (by first | (refine lv_v (lv_sub (l' := [(6, .int (nI (t + 1))), (5, .int ((σ (pb + 2) i) + 1)), (4, .int (nI k)), (3, .int ((fo (fun _ b => b + σ (pb + 1) k) (addSV (σ (pb + 1)) u k) t) + (σ (pb + 1) k))), (2, .int ((fo (fun _ b => b + 1) (addPV u k) t) + 1)), (0, .ref (ad pb)), (1, .int (nI i))]) hl [0, 3, 4, 2, 1, 5, 6] rfl) ?_; simp [fo, mAddV, c_13, c_19, c_51]; done) | exact lv_sub hl [0, 3, 4, 2, 1, 5, 6] rfl)
        exact key_47 (u k) 0 (by omega)  _ _ _ hP hS (lv_sub hl [0, 1, 2, 3, 4, 5, 6] rfl)
  exact key_7 n 0 (by omega)  _ _ _ hP hS (lv_sub hl [0, 1, 2, 3, 4] rfl)

theorem ok_yX8_tell : COK RX8 yX8_tell cX8_tell 4 (some .int) 2 := ⟨im_yX8_tell, se_RX8_yX8_tell, in_RX8, co_yX8_tell, ⟨rfl, by decide +kernel, by decide +kernel, by decide +kernel⟩, by decide⟩
set_option maxHeartbeats 1000000 in
set_option maxRecDepth 100000 in
theorem c_X8_tell (l : Launch) {D : va_G} {ct : Nat → ClassId} {ek ad : Nat → Nat} {N0 : Nat} {X : va_W} {F : State → Prop} (σ : Mem) (pb : Nat) (hpb : isP pb) (i : Nat) (hi : i < 6) (x : Int32) : MI l yX8_tell cX8_tell 4 (some .int) 2 D ct ek ad N0 X F [.ref (ad pb), .int (nI i), .int x] σ (fun r τ => r = tellV (σ (pb + 1) i) (σ (pb + 2) i) x ∧ τ = sg (sg σ (pb + 1) i (tellV (σ (pb + 1) i) (σ (pb + 2) i) x)) (pb + 4) i (σ (pb + 4) i + 1)) := by
  refine ms0 (own := RX8) (by decide) rfl (Nat.le_of_ble_eq_true rfl) (fun p e s m args below meth c S hr hlocks hnm G hP hS ls hl => ?_)
  have hx := S.1
  have hb := S.2.1
  replace hl : lv_has ls 4 [(0, .ref (ad pb)), (1, .int (nI i)), (2, .int x)] := hl
  refine lv_aload_n hx hb dX8_tell_0 rfl (lv_at hl 0 rfl) ?_
  refine gf S G hP pb 0 (isPl0 hpb) (oP hpb) rfl inX8 (by decide) fl_RX8_9 rfl rfl dX8_tell_1 ?_
  refine lv_iload_n hx hb dX8_tell_4 rfl (lv_at hl 1 rfl) ?_
  refine ald S G hP (pb + 1) i (isPl hpb (by decide)) ((aP1 hpb) _) rfl (by omega) (by decide) dX8_tell_5 ?_
  refine rabs S rfl (by decide) hl.1 ml_RX8_50 (Nat.le_of_ble_eq_true rfl) ⟨Nat.zero_le _, Nat.zero_le _⟩ dX8_tell_6 ?_
  refine lv_aload_n hx hb dX8_tell_9 rfl (lv_at hl 0 rfl) ?_
  refine lv_iload_n hx hb dX8_tell_10 rfl (lv_at hl 1 rfl) ?_
  refine lv_iload_n hx hb dX8_tell_11 rfl (lv_at hl 2 rfl) ?_
  refine cVie (As := [.int (nI i), .int x]) S G pb (c_X8_forceOn l (D := D) (ct := ct) (ek := ek) (ad := ad) (N0 := N0) (X := X) (F := F) σ pb hpb i (by omega) x) ok_yX8_forceOn ml_RX8_74 (isPl0 hpb) (oP hpb) rfl hP hS hl.1 rfl (by decide) rfl rfl (Nat.le_of_ble_eq_true rfl) ⟨Nat.zero_le _, Nat.zero_le _⟩ dX8_tell_12 (fun H locs hP hS => ?_)
  refine lv_isub hx hb dX8_tell_15 ?_
  refine lv_iconst (v := 0) hx hb dX8_tell_16 (by decide) ?_
  refine rmax S rfl (by decide) hl.1 ml_RX8_65 (Nat.le_of_ble_eq_true rfl) ⟨Nat.zero_le _, Nat.zero_le _⟩ dX8_tell_17 ?_
  refine lv_istore_n (lv' := [(3, .int (mxI ((abI (σ (pb + 1) i)) - (forceV x (σ (pb + 2) i))) 0)), (0, .ref (ad pb)), (1, .int (nI i)), (2, .int x)]) hx hb dX8_tell_20 rfl hl (by decide) rfl (fun ls hl => ?_)
  refine lv_aload_n hx hb dX8_tell_21 rfl (lv_at hl 1 rfl) ?_
  refine gf S G hP pb 0 (isPl0 hpb) (oP hpb) rfl inX8 (by decide) fl_RX8_9 rfl rfl dX8_tell_22 ?_
  refine lv_iload_n hx hb dX8_tell_25 rfl (lv_at hl 2 rfl) ?_
  refine lv_aload_n hx hb dX8_tell_26 rfl (lv_at hl 1 rfl) ?_
  refine lv_iload_n hx hb dX8_tell_27 rfl (lv_at hl 2 rfl) ?_
  refine cVie (As := [.int (nI i)]) S G pb (c_X8_sideOf l (D := D) (ct := ct) (ek := ek) (ad := ad) (N0 := N0) (X := X) (F := F) σ pb hpb i (by omega)) ok_yX8_sideOf ml_RX8_77 (isPl0 hpb) (oP hpb) rfl hP hS hl.1 rfl (by decide) rfl rfl (Nat.le_of_ble_eq_true rfl) ⟨Nat.zero_le _, Nat.zero_le _⟩ dX8_tell_28 (fun H locs hP hS => ?_)
  refine lv_iload_n hx hb dX8_tell_31 rfl (lv_at hl 0 rfl) ?_
  refine lv_imul hx hb dX8_tell_32 ?_
  refine ast S G hP hS (pb + 1) i (isPl hpb (by decide)) (aP1 hpb) rfl (by omega) (by decide) dX8_tell_33 (fun H locs hP hS => ?_)
  refine lv_aload_n hx hb dX8_tell_34 rfl (lv_at hl 1 rfl) ?_
  refine gf S G hP pb 3 (isPl0 hpb) (oP hpb) rfl inX8 (by decide) fl_RX8_20 rfl rfl dX8_tell_35 ?_
  refine lv_iload_n hx hb dX8_tell_38 rfl (lv_at hl 2 rfl) ?_
  refine lv_dup2_11 hx hb dX8_tell_39 rfl rfl ?_
  refine ald S G hP (pb + 4) i (isPl hpb (by decide)) ((aP4 hpb) _) rfl (by omega) (by decide) dX8_tell_40 ?_
  refine lv_iconst (v := 1) hx hb dX8_tell_41 (by decide) ?_
  refine lv_iadd hx hb dX8_tell_42 ?_
  refine ast S G hP hS (pb + 4) i (isPl hpb (by decide)) (aP4 hpb) rfl (by omega) (by decide) dX8_tell_43 (fun H locs hP hS => ?_)
  refine lv_aload_n hx hb dX8_tell_44 rfl (lv_at hl 1 rfl) ?_
  refine gf S G hP pb 0 (isPl0 hpb) (oP hpb) rfl inX8 (by decide) fl_RX8_9 rfl rfl dX8_tell_45 ?_
  refine lv_iload_n hx hb dX8_tell_48 rfl (lv_at hl 2 rfl) ?_
  refine ald S G hP (pb + 1) i (isPl hpb (by decide)) ((aP1 hpb) _) rfl (by omega) (by decide) dX8_tell_49 ?_
  exact eI S hr hlocks hP hS dX8_tell_50 (by first | exact ⟨rfl, rfl⟩ | (refine ⟨?_, rfl⟩; simp [tellV, sg_at]; done) | (simp [tellV, sg_at]; done) | (simp only [tellV, sg_at, ↓reduceIte, if_true, if_false, and_self, true_and]; done) | grind [tellV, sg_at])

theorem ok_yX8_strongestPuller : COK RX8 yX8_strongestPuller cX8_strongestPuller 6 (some .int) 1 := ⟨im_yX8_strongestPuller, se_RX8_yX8_strongestPuller, in_RX8, co_yX8_strongestPuller, ⟨rfl, by decide +kernel, by decide +kernel, by decide +kernel⟩, by decide⟩
set_option maxHeartbeats 1000000 in
set_option maxRecDepth 100000 in
theorem c_X8_strongestPuller (l : Launch) {D : va_G} {ct : Nat → ClassId} {ek ad : Nat → Nat} {N0 : Nat} {X : va_W} {F : State → Prop} (σ : Mem) (pb : Nat) (hpb : isP pb) (i : Nat) (hi : i < 6) (n : Nat) (hn : σ pb 7 = nI n) (hn6 : n ≤ 6) : MI l yX8_strongestPuller cX8_strongestPuller 6 (some .int) 2 D ct ek ad N0 X F [.ref (ad pb), .int (nI i)] σ (fun r τ => r = (best (fun q => σ (pb + 7 + i) q * abI (σ (pb + 1) i - σ (pb + 1) q)) n).2 ∧ τ = σ) := by
  refine ms0 (own := RX8) (by decide) rfl (Nat.le_of_ble_eq_true rfl) (fun p e s m args below meth c S hr hlocks hnm G hP hS ls hl => ?_)
  have hx := S.1
  have hb := S.2.1
  replace hl : lv_has ls 6 [(0, .ref (ad pb)), (1, .int (nI i))] := hl
  refine lv_iconst (v := (-1)) hx hb dX8_strongestPuller_0 (by decide) ?_
  refine lv_istore_n (lv' := [(2, .int (-1)), (0, .ref (ad pb)), (1, .int (nI i))]) hx hb dX8_strongestPuller_1 rfl hl (by decide) rfl (fun ls hl => ?_)
  refine lv_iconst (v := 0) hx hb dX8_strongestPuller_2 (by decide) ?_
  refine lv_istore_n (lv' := [(3, .int 0), (2, .int (-1)), (0, .ref (ad pb)), (1, .int (nI i))]) hx hb dX8_strongestPuller_3 rfl hl (by decide) rfl (fun ls hl => ?_)
  refine lv_iconst (v := 0) hx hb dX8_strongestPuller_4 (by decide) ?_
  refine lv_istore (lv' := [(4, .int 0), (3, .int 0), (2, .int (-1)), (0, .ref (ad pb)), (1, .int (nI i))]) hx hb dX8_strongestPuller_5 hl (by decide) rfl (fun ls hl => ?_)
  have key_7 : ∀ (d k : Nat), k + d = n → ∀ (H : Heap) (locs : List Loc) (ls : Array Slot), wP D ct ek ad X σ H → va_S (fr N0) s.heap H locs → lv_has ls 6 [(4, .int (nI k)), (3, .int ((best (fun q => σ (pb + 7 + i) q * abI (σ (pb + 1) i - σ (pb + 1) q)) k).1)), (2, .int ((best (fun q => σ (pb + 7 + i) q * abI (σ (pb + 1) i - σ (pb + 1) q)) k).2)), (0, .ref (ad pb)), (1, .int (nI i))] → W p l e (rmd 2 0 0) s m args below meth c H locs 0 0 (MQ below (wQi D ct ek ad N0 X (fun r τ => r = (best (fun q => σ (pb + 7 + i) q * abI (σ (pb + 1) i - σ (pb + 1) q)) n).2 ∧ τ = σ)) args s 0 0 (fr N0)) (F0 m 7 ls []) := by
    intro d
    induction d with
    | zero =>
      intro k9 hk
      obtain rfl : n = k9 := by omega
      intro  H locs ls hP hS hl
      refine lv_iload hx hb dX8_strongestPuller_7 (lv_at hl 0 rfl) ?_
      refine lv_aload_n hx hb dX8_strongestPuller_9 rfl (lv_at hl 3 rfl) ?_
      refine gf S G hP pb 7 (isPl0 hpb) (oP hpb) rfl inX8 (by decide) fl_RX8_40 rfl rfl dX8_strongestPuller_10 ?_
      refine lv_icmp_ge (tgt := 53) hx hb dX8_strongestPuller_13 (by decide) (fun c_13 => ?_) (fun c_13 => absurd (by rw [hn]; exact nI_le (by omega) (by omega)) c_13)
      refine lv_iload_n hx hb dX8_strongestPuller_53 rfl (lv_at hl 2 rfl) ?_
      exact eI S hr hlocks hP hS dX8_strongestPuller_54 (by first | exact ⟨rfl, rfl⟩ | (refine ⟨?_, rfl⟩; simp [c_13]; done) | (simp [c_13]; done) | (simp only [c_13, ↓reduceIte, if_true, if_false, and_self, true_and]; done) | grind [])
    | succ d ih =>
      intro k hk  H locs ls hP hS hl
      have hkn : k < n := by omega
      refine lv_iload hx hb dX8_strongestPuller_7 (lv_at hl 0 rfl) ?_
      refine lv_aload_n hx hb dX8_strongestPuller_9 rfl (lv_at hl 3 rfl) ?_
      refine gf S G hP pb 7 (isPl0 hpb) (oP hpb) rfl inX8 (by decide) fl_RX8_40 rfl rfl dX8_strongestPuller_10 ?_
      refine lv_icmp_ge (tgt := 53) hx hb dX8_strongestPuller_13 (by decide) (fun c_13 => absurd c_13 (by rw [hn]; exact nI_ge (by omega) (by omega))) (fun c_13 => ?_)
      refine lv_aload_n hx hb dX8_strongestPuller_16 rfl (lv_at hl 3 rfl) ?_
      refine gf S G hP pb 5 (isPl0 hpb) (oP hpb) rfl inX8 (by decide) fl_RX8_28 rfl rfl dX8_strongestPuller_17 ?_
      refine lv_iload_n hx hb dX8_strongestPuller_20 rfl (lv_at hl 4 rfl) ?_
      refine gld S G hP (pb + 6) i (isPl hpb (by decide)) ((gP6 hpb) _) rfl (by omega) (by decide) (if_pos (by omega)) dX8_strongestPuller_21 ?_
      refine lv_iload hx hb dX8_strongestPuller_22 (lv_at hl 0 rfl) ?_
      refine ald S G hP (pb + 7 + i) k (isPlw hpb (by omega)) ((aPw hpb (by omega)) _) rfl (by omega) (by decide) dX8_strongestPuller_24 ?_
      refine lv_aload_n hx hb dX8_strongestPuller_25 rfl (lv_at hl 3 rfl) ?_
      refine lv_iload_n hx hb dX8_strongestPuller_26 rfl (lv_at hl 4 rfl) ?_
      refine lv_iload hx hb dX8_strongestPuller_27 (lv_at hl 0 rfl) ?_
      refine cVie (As := [.int (nI i), .int (nI k)]) S G pb (c_X8_difference l (D := D) (ct := ct) (ek := ek) (ad := ad) (N0 := N0) (X := X) (F := F) σ pb hpb i (by omega) k (by omega)) ok_yX8_difference ml_RX8_80 (isPl0 hpb) (oP hpb) rfl hP hS hl.1 rfl (by decide) rfl rfl (Nat.le_of_ble_eq_true rfl) ⟨Nat.zero_le _, Nat.zero_le _⟩ dX8_strongestPuller_29 (fun H locs hP hS => ?_)
      refine lv_imul hx hb dX8_strongestPuller_32 ?_
      refine lv_istore (lv' := [(5, .int ((σ (pb + 7 + i) k) * (abI (σ (pb + 1) i - σ (pb + 1) k)))), (4, .int (nI k)), (3, .int ((best (fun q => σ (pb + 7 + i) q * abI (σ (pb + 1) i - σ (pb + 1) q)) k).1)), (2, .int ((best (fun q => σ (pb + 7 + i) q * abI (σ (pb + 1) i - σ (pb + 1) q)) k).2)), (0, .ref (ad pb)), (1, .int (nI i))]) hx hb dX8_strongestPuller_33 hl (by decide) rfl (fun ls hl => ?_)
      refine lv_iload hx hb dX8_strongestPuller_35 (lv_at hl 0 rfl) ?_
      refine lv_iload_n hx hb dX8_strongestPuller_37 rfl (lv_at hl 2 rfl) ?_
      refine lv_icmp_le (tgt := 47) hx hb dX8_strongestPuller_38 (by decide) (fun c_38 => ?_) (fun c_38 => ?_)
      · refine lv_iinc (v := nI (k + 1)) (lv' := [(4, .int (nI (k + 1))), (5, .int ((σ (pb + 7 + i) k) * (abI (σ (pb + 1) i - σ (pb + 1) k)))), (3, .int ((best (fun q => σ (pb + 7 + i) q * abI (σ (pb + 1) i - σ (pb + 1) q)) k).1)), (2, .int ((best (fun q => σ (pb + 7 + i) q * abI (σ (pb + 1) i - σ (pb + 1) q)) k).2)), (0, .ref (ad pb)), (1, .int (nI i))]) hx hb dX8_strongestPuller_47 hl (k := 1) rfl (nI_inc _) (by decide) rfl (fun ls hl => ?_)
        refine lv_goto (tgt := 7) hx hb dX8_strongestPuller_50 (by decide) ?_
        exact ih (k + 1) (by omega)  _ _ _ hP hS (by first | (refine lv_v (lv_sub (l' := [(4, .int (nI (k + 1))), (3, .int ((best (fun q => σ (pb + 7 + i) q * abI (σ (pb + 1) i - σ (pb + 1) q)) k).1)), (2, .int ((best (fun q => σ (pb + 7 + i) q * abI (σ (pb + 1) i - σ (pb + 1) q)) k).2)), (0, .ref (ad pb)), (1, .int (nI i))]) hl [0, 2, 3, 4, 5] rfl) ?_; simp [fo, best_s, c_13, c_38]; done) | exact lv_sub hl [0, 2, 3, 4, 5] rfl)
      · refine lv_iload hx hb dX8_strongestPuller_41 (lv_at hl 0 rfl) ?_
        refine lv_istore_n (lv' := [(3, .int ((σ (pb + 7 + i) k) * (abI (σ (pb + 1) i - σ (pb + 1) k)))), (5, .int ((σ (pb + 7 + i) k) * (abI (σ (pb + 1) i - σ (pb + 1) k)))), (4, .int (nI k)), (2, .int ((best (fun q => σ (pb + 7 + i) q * abI (σ (pb + 1) i - σ (pb + 1) q)) k).2)), (0, .ref (ad pb)), (1, .int (nI i))]) hx hb dX8_strongestPuller_43 rfl hl (by decide) rfl (fun ls hl => ?_)
        refine lv_iload hx hb dX8_strongestPuller_44 (lv_at hl 2 rfl) ?_
        refine lv_istore_n (lv' := [(2, .int (nI k)), (3, .int ((σ (pb + 7 + i) k) * (abI (σ (pb + 1) i - σ (pb + 1) k)))), (5, .int ((σ (pb + 7 + i) k) * (abI (σ (pb + 1) i - σ (pb + 1) k)))), (4, .int (nI k)), (0, .ref (ad pb)), (1, .int (nI i))]) hx hb dX8_strongestPuller_46 rfl hl (by decide) rfl (fun ls hl => ?_)
        refine lv_iinc (v := nI (k + 1)) (lv' := [(4, .int (nI (k + 1))), (2, .int (nI k)), (3, .int ((σ (pb + 7 + i) k) * (abI (σ (pb + 1) i - σ (pb + 1) k)))), (5, .int ((σ (pb + 7 + i) k) * (abI (σ (pb + 1) i - σ (pb + 1) k)))), (0, .ref (ad pb)), (1, .int (nI i))]) hx hb dX8_strongestPuller_47 hl (k := 3) rfl (nI_inc _) (by decide) rfl (fun ls hl => ?_)
        refine lv_goto (tgt := 7) hx hb dX8_strongestPuller_50 (by decide) ?_
        exact ih (k + 1) (by omega)  _ _ _ hP hS (by first | (refine lv_v (lv_sub (l' := [(4, .int (nI (k + 1))), (3, .int ((σ (pb + 7 + i) k) * (abI (σ (pb + 1) i - σ (pb + 1) k)))), (2, .int (nI k)), (0, .ref (ad pb)), (1, .int (nI i))]) hl [0, 2, 1, 4, 5] rfl) ?_; simp [fo, best_s, c_13, c_38]; done) | exact lv_sub hl [0, 2, 1, 4, 5] rfl)
  exact key_7 n 0 (by omega)  _ _ _ hP hS (lv_sub hl [0, 1, 2, 3, 4] rfl)

theorem ok_yX8_farthestTo : COK RX8 yX8_farthestTo cX8_farthestTo 6 (some .int) 1 := ⟨im_yX8_farthestTo, se_RX8_yX8_farthestTo, in_RX8, co_yX8_farthestTo, ⟨rfl, by decide +kernel, by decide +kernel, by decide +kernel⟩, by decide⟩
set_option maxHeartbeats 1000000 in
set_option maxRecDepth 100000 in
theorem c_X8_farthestTo (l : Launch) {D : va_G} {ct : Nat → ClassId} {ek ad : Nat → Nat} {N0 : Nat} {X : va_W} {F : State → Prop} (σ : Mem) (pb : Nat) (hpb : isP pb) (x : Int32) (n : Nat) (hn : σ pb 7 = nI n) (hn6 : n ≤ 6) : MI l yX8_farthestTo cX8_farthestTo 6 (some .int) 0 D ct ek ad N0 X F [.ref (ad pb), .int x] σ (fun r τ => r = (best (fun q => σ (pb + 1) q * x) n).2 ∧ τ = σ) := by
  refine ms0 (own := RX8) (by decide) rfl (Nat.le_of_ble_eq_true rfl) (fun p e s m args below meth c S hr hlocks hnm G hP hS ls hl => ?_)
  have hx := S.1
  have hb := S.2.1
  replace hl : lv_has ls 6 [(0, .ref (ad pb)), (1, .int x)] := hl
  refine lv_iconst (v := (-1)) hx hb dX8_farthestTo_0 (by decide) ?_
  refine lv_istore_n (lv' := [(2, .int (-1)), (0, .ref (ad pb)), (1, .int x)]) hx hb dX8_farthestTo_1 rfl hl (by decide) rfl (fun ls hl => ?_)
  refine lv_iconst (v := 0) hx hb dX8_farthestTo_2 (by decide) ?_
  refine lv_istore_n (lv' := [(3, .int 0), (2, .int (-1)), (0, .ref (ad pb)), (1, .int x)]) hx hb dX8_farthestTo_3 rfl hl (by decide) rfl (fun ls hl => ?_)
  refine lv_iconst (v := 0) hx hb dX8_farthestTo_4 (by decide) ?_
  refine lv_istore (lv' := [(4, .int 0), (3, .int 0), (2, .int (-1)), (0, .ref (ad pb)), (1, .int x)]) hx hb dX8_farthestTo_5 hl (by decide) rfl (fun ls hl => ?_)
  have key_7 : ∀ (d k : Nat), k + d = n → ∀ (H : Heap) (locs : List Loc) (ls : Array Slot), wP D ct ek ad X σ H → va_S (fr N0) s.heap H locs → lv_has ls 6 [(4, .int (nI k)), (3, .int ((best (fun q => σ (pb + 1) q * x) k).1)), (2, .int ((best (fun q => σ (pb + 1) q * x) k).2)), (0, .ref (ad pb)), (1, .int x)] → W p l e (rmd 0 0 0) s m args below meth c H locs 0 0 (MQ below (wQi D ct ek ad N0 X (fun r τ => r = (best (fun q => σ (pb + 1) q * x) n).2 ∧ τ = σ)) args s 0 0 (fr N0)) (F0 m 7 ls []) := by
    intro d
    induction d with
    | zero =>
      intro k9 hk
      obtain rfl : n = k9 := by omega
      intro  H locs ls hP hS hl
      refine lv_iload hx hb dX8_farthestTo_7 (lv_at hl 0 rfl) ?_
      refine lv_aload_n hx hb dX8_farthestTo_9 rfl (lv_at hl 3 rfl) ?_
      refine gf S G hP pb 7 (isPl0 hpb) (oP hpb) rfl inX8 (by decide) fl_RX8_40 rfl rfl dX8_farthestTo_10 ?_
      refine lv_icmp_ge (tgt := 45) hx hb dX8_farthestTo_13 (by decide) (fun c_13 => ?_) (fun c_13 => absurd (by rw [hn]; exact nI_le (by omega) (by omega)) c_13)
      refine lv_iload_n hx hb dX8_farthestTo_45 rfl (lv_at hl 2 rfl) ?_
      exact eI S hr hlocks hP hS dX8_farthestTo_46 (by first | exact ⟨rfl, rfl⟩ | (refine ⟨?_, rfl⟩; simp [c_13]; done) | (simp [c_13]; done) | (simp only [c_13, ↓reduceIte, if_true, if_false, and_self, true_and]; done) | grind [])
    | succ d ih =>
      intro k hk  H locs ls hP hS hl
      have hkn : k < n := by omega
      refine lv_iload hx hb dX8_farthestTo_7 (lv_at hl 0 rfl) ?_
      refine lv_aload_n hx hb dX8_farthestTo_9 rfl (lv_at hl 3 rfl) ?_
      refine gf S G hP pb 7 (isPl0 hpb) (oP hpb) rfl inX8 (by decide) fl_RX8_40 rfl rfl dX8_farthestTo_10 ?_
      refine lv_icmp_ge (tgt := 45) hx hb dX8_farthestTo_13 (by decide) (fun c_13 => absurd c_13 (by rw [hn]; exact nI_ge (by omega) (by omega))) (fun c_13 => ?_)
      refine lv_aload_n hx hb dX8_farthestTo_16 rfl (lv_at hl 3 rfl) ?_
      refine gf S G hP pb 0 (isPl0 hpb) (oP hpb) rfl inX8 (by decide) fl_RX8_9 rfl rfl dX8_farthestTo_17 ?_
      refine lv_iload hx hb dX8_farthestTo_20 (lv_at hl 0 rfl) ?_
      refine ald S G hP (pb + 1) k (isPl hpb (by decide)) ((aP1 hpb) _) rfl (by omega) (by decide) dX8_farthestTo_22 ?_
      refine lv_iload_n hx hb dX8_farthestTo_23 rfl (lv_at hl 4 rfl) ?_
      refine lv_imul hx hb dX8_farthestTo_24 ?_
      refine lv_istore (lv' := [(5, .int ((σ (pb + 1) k) * x)), (4, .int (nI k)), (3, .int ((best (fun q => σ (pb + 1) q * x) k).1)), (2, .int ((best (fun q => σ (pb + 1) q * x) k).2)), (0, .ref (ad pb)), (1, .int x)]) hx hb dX8_farthestTo_25 hl (by decide) rfl (fun ls hl => ?_)
      refine lv_iload hx hb dX8_farthestTo_27 (lv_at hl 0 rfl) ?_
      refine lv_iload_n hx hb dX8_farthestTo_29 rfl (lv_at hl 2 rfl) ?_
      refine lv_icmp_le (tgt := 39) hx hb dX8_farthestTo_30 (by decide) (fun c_30 => ?_) (fun c_30 => ?_)
      · refine lv_iinc (v := nI (k + 1)) (lv' := [(4, .int (nI (k + 1))), (5, .int ((σ (pb + 1) k) * x)), (3, .int ((best (fun q => σ (pb + 1) q * x) k).1)), (2, .int ((best (fun q => σ (pb + 1) q * x) k).2)), (0, .ref (ad pb)), (1, .int x)]) hx hb dX8_farthestTo_39 hl (k := 1) rfl (nI_inc _) (by decide) rfl (fun ls hl => ?_)
        refine lv_goto (tgt := 7) hx hb dX8_farthestTo_42 (by decide) ?_
        exact ih (k + 1) (by omega)  _ _ _ hP hS (by first | (refine lv_v (lv_sub (l' := [(4, .int (nI (k + 1))), (3, .int ((best (fun q => σ (pb + 1) q * x) k).1)), (2, .int ((best (fun q => σ (pb + 1) q * x) k).2)), (0, .ref (ad pb)), (1, .int x)]) hl [0, 2, 3, 4, 5] rfl) ?_; simp [fo, best_s, c_13, c_30]; done) | exact lv_sub hl [0, 2, 3, 4, 5] rfl)
      · refine lv_iload hx hb dX8_farthestTo_33 (lv_at hl 0 rfl) ?_
        refine lv_istore_n (lv' := [(3, .int ((σ (pb + 1) k) * x)), (5, .int ((σ (pb + 1) k) * x)), (4, .int (nI k)), (2, .int ((best (fun q => σ (pb + 1) q * x) k).2)), (0, .ref (ad pb)), (1, .int x)]) hx hb dX8_farthestTo_35 rfl hl (by decide) rfl (fun ls hl => ?_)
        refine lv_iload hx hb dX8_farthestTo_36 (lv_at hl 2 rfl) ?_
        refine lv_istore_n (lv' := [(2, .int (nI k)), (3, .int ((σ (pb + 1) k) * x)), (5, .int ((σ (pb + 1) k) * x)), (4, .int (nI k)), (0, .ref (ad pb)), (1, .int x)]) hx hb dX8_farthestTo_38 rfl hl (by decide) rfl (fun ls hl => ?_)
        refine lv_iinc (v := nI (k + 1)) (lv' := [(4, .int (nI (k + 1))), (2, .int (nI k)), (3, .int ((σ (pb + 1) k) * x)), (5, .int ((σ (pb + 1) k) * x)), (0, .ref (ad pb)), (1, .int x)]) hx hb dX8_farthestTo_39 hl (k := 3) rfl (nI_inc _) (by decide) rfl (fun ls hl => ?_)
        refine lv_goto (tgt := 7) hx hb dX8_farthestTo_42 (by decide) ?_
        exact ih (k + 1) (by omega)  _ _ _ hP hS (by first | (refine lv_v (lv_sub (l' := [(4, .int (nI (k + 1))), (3, .int ((σ (pb + 1) k) * x)), (2, .int (nI k)), (0, .ref (ad pb)), (1, .int x)]) hl [0, 2, 1, 4, 5] rfl) ?_; simp [fo, best_s, c_13, c_30]; done) | exact lv_sub hl [0, 2, 1, 4, 5] rfl)
  exact key_7 n 0 (by omega)  _ _ _ hP hS (lv_sub hl [0, 1, 2, 3, 4] rfl)

theorem ok_yX8_measured : COK RX8 yX8_measured cX8_measured 3 (some .int) 2 := ⟨im_yX8_measured, se_RX8_yX8_measured, in_RX8, co_yX8_measured, ⟨rfl, by decide +kernel, by decide +kernel, by decide +kernel⟩, by decide⟩
set_option maxHeartbeats 1000000 in
set_option maxRecDepth 100000 in
theorem c_X8_measured (l : Launch) {D : va_G} {ct : Nat → ClassId} {ek ad : Nat → Nat} {N0 : Nat} {X : va_W} {F : State → Prop} (σ : Mem) (pb : Nat) (hpb : isP pb) (w : Int32) (i : Nat) (hi : i < 6) (n : Nat) (hn : σ pb 7 = nI n) (hn6 : n ≤ 6) : MI l yX8_measured cX8_measured 3 (some .int) 1 D ct ek ad N0 X F [.ref (ad pb), .int w, .int (nI i)] σ (fun r τ => r = measV σ pb n w i ∧ τ = σ) := by
  refine ms0 (own := RX8) (by decide) rfl (Nat.le_of_ble_eq_true rfl) (fun p e s m args below meth c S hr hlocks hnm G hP hS ls hl => ?_)
  have hx := S.1
  have hb := S.2.1
  replace hl : lv_has ls 3 [(0, .ref (ad pb)), (1, .int w), (2, .int (nI i))] := hl
  refine lv_iload_n hx hb dX8_measured_0 rfl (lv_at hl 1 rfl) ?_
  by_cases c_1_0 : w = 0
  · refine lv_tableIn (off := 27) (tgt := 28) hx hb dX8_measured_1 (by rw [c_1_0]; decide) (by rw [c_1_0]; decide) (by rw [c_1_0]; rfl) (by decide) ?_
    refine lv_aload_n hx hb dX8_measured_28 rfl (lv_at hl 0 rfl) ?_
    refine gf S G hP pb 0 (isPl0 hpb) (oP hpb) rfl inX8 (by decide) fl_RX8_9 rfl rfl dX8_measured_29 ?_
    refine lv_iload_n hx hb dX8_measured_32 rfl (lv_at hl 2 rfl) ?_
    refine ald S G hP (pb + 1) i (isPl hpb (by decide)) ((aP1 hpb) _) rfl (by omega) (by decide) dX8_measured_33 ?_
    exact eI S hr hlocks hP hS dX8_measured_34 (by first | (refine ⟨?_, ?_⟩ <;> simp only [measV, c_1_0, ↓reduceIte, if_true, if_false, eq_self]; done) | (refine ⟨?_, rfl⟩; simp only [measV, c_1_0, ↓reduceIte, if_true, if_false, eq_self]; done) | exact ⟨rfl, rfl⟩ | (refine ⟨?_, rfl⟩; simp [measV, c_1_0]; done) | (simp [measV, c_1_0]; done) | grind [measV])
  by_cases c_1_1 : w = 1
  · refine lv_tableIn (off := 34) (tgt := 35) hx hb dX8_measured_1 (by rw [c_1_1]; decide) (by rw [c_1_1]; decide) (by rw [c_1_1]; rfl) (by decide) ?_
    refine lv_aload_n hx hb dX8_measured_35 rfl (lv_at hl 0 rfl) ?_
    refine gf S G hP pb 0 (isPl0 hpb) (oP hpb) rfl inX8 (by decide) fl_RX8_9 rfl rfl dX8_measured_36 ?_
    refine lv_iload_n hx hb dX8_measured_39 rfl (lv_at hl 2 rfl) ?_
    refine ald S G hP (pb + 1) i (isPl hpb (by decide)) ((aP1 hpb) _) rfl (by omega) (by decide) dX8_measured_40 ?_
    refine rabs S rfl (by decide) hl.1 ml_RX8_50 (Nat.le_of_ble_eq_true rfl) ⟨Nat.zero_le _, Nat.zero_le _⟩ dX8_measured_41 ?_
    exact eI S hr hlocks hP hS dX8_measured_44 (by first | (refine ⟨?_, ?_⟩ <;> simp only [measV, c_1_1, ↓reduceIte, if_true, if_false, eq_self]; done) | (refine ⟨?_, rfl⟩; simp only [measV, c_1_1, ↓reduceIte, if_true, if_false, eq_self]; done) | exact ⟨rfl, rfl⟩ | (refine ⟨?_, rfl⟩; simp [measV, c_1_1]; done) | (simp [measV, c_1_1]; done) | grind [measV])
  by_cases c_1_2 : w = 2
  · refine lv_tableIn (off := 44) (tgt := 45) hx hb dX8_measured_1 (by rw [c_1_2]; decide) (by rw [c_1_2]; decide) (by rw [c_1_2]; rfl) (by decide) ?_
    refine lv_aload_n hx hb dX8_measured_45 rfl (lv_at hl 0 rfl) ?_
    refine gf S G hP pb 1 (isPl0 hpb) (oP hpb) rfl inX8 (by decide) fl_RX8_13 rfl rfl dX8_measured_46 ?_
    refine lv_iload_n hx hb dX8_measured_49 rfl (lv_at hl 2 rfl) ?_
    refine ald S G hP (pb + 2) i (isPl hpb (by decide)) ((aP2 hpb) _) rfl (by omega) (by decide) dX8_measured_50 ?_
    exact eI S hr hlocks hP hS dX8_measured_51 (by first | (refine ⟨?_, ?_⟩ <;> simp only [measV, c_1_2, ↓reduceIte, if_true, if_false, eq_self]; done) | (refine ⟨?_, rfl⟩; simp only [measV, c_1_2, ↓reduceIte, if_true, if_false, eq_self]; done) | exact ⟨rfl, rfl⟩ | (refine ⟨?_, rfl⟩; simp [measV, c_1_2]; done) | (simp [measV, c_1_2]; done) | grind [measV])
  refine lv_tableOut (tgt := 52) hx hb dX8_measured_1 (swout (0) (2) (fun n h1 h2 he => by
    rcases (show n = 0 ∨ n = 1 ∨ n = 2 by omega) with rfl | rfl | rfl
    · exact c_1_0 (Int32.toInt_inj.mp he)
    · exact c_1_1 (Int32.toInt_inj.mp he)
    · exact c_1_2 (Int32.toInt_inj.mp he))) (by decide) ?_
  refine lv_aload_n hx hb dX8_measured_52 rfl (lv_at hl 0 rfl) ?_
  refine lv_iload_n hx hb dX8_measured_53 rfl (lv_at hl 2 rfl) ?_
  refine cVie (As := [.int (nI i)]) S G pb (c_X8_weightsTogether l (D := D) (ct := ct) (ek := ek) (ad := ad) (N0 := N0) (X := X) (F := F) σ pb hpb i (by omega) n (by first | assumption | omega | (simp [sg_at]; assumption) | (simp [sg_at]; done)) (by omega)) ok_yX8_weightsTogether ml_RX8_90 (isPl0 hpb) (oP hpb) rfl hP hS hl.1 rfl (by decide) rfl rfl (Nat.le_of_ble_eq_true rfl) ⟨Nat.zero_le _, Nat.zero_le _⟩ dX8_measured_54 (fun H locs hP hS => ?_)
  exact eI S hr hlocks hP hS dX8_measured_57 (by first | (refine ⟨?_, ?_⟩ <;> simp only [measV, c_1_0, c_1_1, c_1_2, ↓reduceIte, if_true, if_false, eq_self]; done) | (refine ⟨?_, rfl⟩; simp only [measV, c_1_0, c_1_1, c_1_2, ↓reduceIte, if_true, if_false, eq_self]; done) | exact ⟨rfl, rfl⟩ | (refine ⟨?_, rfl⟩; simp [measV, c_1_0, c_1_1, c_1_2]; done) | (simp [measV, c_1_0, c_1_1, c_1_2]; done) | grind [measV])

theorem ok_yX8_isAhead : COK RX8 yX8_isAhead cX8_isAhead 6 (some .boolean) 3 := ⟨im_yX8_isAhead, se_RX8_yX8_isAhead, in_RX8, co_yX8_isAhead, ⟨rfl, by decide +kernel, by decide +kernel, by decide +kernel⟩, by decide⟩
set_option maxHeartbeats 1000000 in
set_option maxRecDepth 100000 in
theorem c_X8_isAhead (l : Launch) {D : va_G} {ct : Nat → ClassId} {ek ad : Nat → Nat} {N0 : Nat} {X : va_W} {F : State → Prop} (σ : Mem) (pb : Nat) (hpb : isP pb) (w : Int32) (i : Nat) (hi : i < 6) (j : Nat) (hj : j < 6) (n : Nat) (hn : σ pb 7 = nI n) (hn6 : n ≤ 6) : MI l yX8_isAhead cX8_isAhead 6 (some .boolean) 2 D ct ek ad N0 X F [.ref (ad pb), .int w, .int (nI i), .int (nI j)] σ (fun r τ => r = aheadB (measV σ pb n w i) (measV σ pb n w j) (nI i) (nI j) ∧ τ = σ) := by
  refine ms0 (own := RX8) (by decide) rfl (Nat.le_of_ble_eq_true rfl) (fun p e s m args below meth c S hr hlocks hnm G hP hS ls hl => ?_)
  have hx := S.1
  have hb := S.2.1
  replace hl : lv_has ls 6 [(0, .ref (ad pb)), (1, .int w), (2, .int (nI i)), (3, .int (nI j))] := hl
  refine lv_aload_n hx hb dX8_isAhead_0 rfl (lv_at hl 0 rfl) ?_
  refine lv_iload_n hx hb dX8_isAhead_1 rfl (lv_at hl 1 rfl) ?_
  refine lv_iload_n hx hb dX8_isAhead_2 rfl (lv_at hl 2 rfl) ?_
  refine cVie (As := [.int w, .int (nI i)]) S G pb (c_X8_measured l (D := D) (ct := ct) (ek := ek) (ad := ad) (N0 := N0) (X := X) (F := F) σ pb hpb w i (by omega) n (by first | assumption | omega | (simp [sg_at]; assumption) | (simp [sg_at]; done)) (by omega)) ok_yX8_measured ml_RX8_87 (isPl0 hpb) (oP hpb) rfl hP hS hl.1 rfl (by decide) rfl rfl (Nat.le_of_ble_eq_true rfl) ⟨Nat.zero_le _, Nat.zero_le _⟩ dX8_isAhead_3 (fun H locs hP hS => ?_)
  refine lv_istore (lv' := [(4, .int (measV σ pb n w i)), (0, .ref (ad pb)), (1, .int w), (2, .int (nI i)), (3, .int (nI j))]) hx hb dX8_isAhead_6 hl (by decide) rfl (fun ls hl => ?_)
  refine lv_aload_n hx hb dX8_isAhead_8 rfl (lv_at hl 1 rfl) ?_
  refine lv_iload_n hx hb dX8_isAhead_9 rfl (lv_at hl 2 rfl) ?_
  refine lv_iload_n hx hb dX8_isAhead_10 rfl (lv_at hl 4 rfl) ?_
  refine cVie (As := [.int w, .int (nI j)]) S G pb (c_X8_measured l (D := D) (ct := ct) (ek := ek) (ad := ad) (N0 := N0) (X := X) (F := F) σ pb hpb w j (by omega) n (by first | assumption | omega | (simp [sg_at]; assumption) | (simp [sg_at]; done)) (by omega)) ok_yX8_measured ml_RX8_87 (isPl0 hpb) (oP hpb) rfl hP hS hl.1 rfl (by decide) rfl rfl (Nat.le_of_ble_eq_true rfl) ⟨Nat.zero_le _, Nat.zero_le _⟩ dX8_isAhead_11 (fun H locs hP hS => ?_)
  refine lv_istore (lv' := [(5, .int (measV σ pb n w j)), (4, .int (measV σ pb n w i)), (0, .ref (ad pb)), (1, .int w), (2, .int (nI i)), (3, .int (nI j))]) hx hb dX8_isAhead_14 hl (by decide) rfl (fun ls hl => ?_)
  refine lv_iload hx hb dX8_isAhead_16 (lv_at hl 1 rfl) ?_
  refine lv_iload hx hb dX8_isAhead_18 (lv_at hl 0 rfl) ?_
  refine lv_icmp_gt (tgt := 35) hx hb dX8_isAhead_20 (by decide) (fun c_20 => ?_) (fun c_20 => ?_)
  · refine lv_iconst (v := 1) hx hb dX8_isAhead_35 (by decide) ?_
    refine lv_goto (tgt := 40) hx hb dX8_isAhead_36 (by decide) ?_
    exact eZ S hr hlocks hP hS (by decide) dX8_isAhead_40 (by first | (refine ⟨?_, ?_⟩ <;> simp only [aheadB, c_20, ↓reduceIte, if_true, if_false, eq_self]; done) | (refine ⟨?_, rfl⟩; simp only [aheadB, c_20, ↓reduceIte, if_true, if_false, eq_self]; done) | exact ⟨rfl, rfl⟩ | (refine ⟨?_, rfl⟩; simp [aheadB, c_20]; done) | (simp [aheadB, c_20]; done) | grind [aheadB])
  · refine lv_iload hx hb dX8_isAhead_23 (lv_at hl 1 rfl) ?_
    refine lv_iload hx hb dX8_isAhead_25 (lv_at hl 0 rfl) ?_
    refine lv_icmp_ne (tgt := 39) hx hb dX8_isAhead_27 (by decide) (fun c_27 => ?_) (fun c_27 => ?_)
    · refine lv_iconst (v := 0) hx hb dX8_isAhead_39 (by decide) ?_
      exact eZ S hr hlocks hP hS (by decide) dX8_isAhead_40 (by first | (refine ⟨?_, ?_⟩ <;> simp only [aheadB, c_20, c_27, ↓reduceIte, if_true, if_false, eq_self]; done) | (refine ⟨?_, rfl⟩; simp only [aheadB, c_20, c_27, ↓reduceIte, if_true, if_false, eq_self]; done) | exact ⟨rfl, rfl⟩ | (refine ⟨?_, rfl⟩; simp [aheadB, c_20, c_27]; done) | (simp [aheadB, c_20, c_27]; done) | grind [aheadB])
    · refine lv_iload_n hx hb dX8_isAhead_30 rfl (lv_at hl 4 rfl) ?_
      refine lv_iload_n hx hb dX8_isAhead_31 rfl (lv_at hl 5 rfl) ?_
      refine lv_icmp_ge (tgt := 39) hx hb dX8_isAhead_32 (by decide) (fun c_32 => ?_) (fun c_32 => ?_)
      · refine lv_iconst (v := 0) hx hb dX8_isAhead_39 (by decide) ?_
        exact eZ S hr hlocks hP hS (by decide) dX8_isAhead_40 (by first | (refine ⟨?_, ?_⟩ <;> simp only [aheadB, c_20, c_27, c_32, ↓reduceIte, if_true, if_false, eq_self]; done) | (refine ⟨?_, rfl⟩; simp only [aheadB, c_20, c_27, c_32, ↓reduceIte, if_true, if_false, eq_self]; done) | exact ⟨rfl, rfl⟩ | (refine ⟨?_, rfl⟩; simp [aheadB, c_20, c_27, c_32]; done) | (simp [aheadB, c_20, c_27, c_32]; done) | grind [aheadB])
      · refine lv_iconst (v := 1) hx hb dX8_isAhead_35 (by decide) ?_
        refine lv_goto (tgt := 40) hx hb dX8_isAhead_36 (by decide) ?_
        exact eZ S hr hlocks hP hS (by decide) dX8_isAhead_40 (by first | (refine ⟨?_, ?_⟩ <;> simp only [aheadB, c_20, c_27, c_32, ↓reduceIte, if_true, if_false, eq_self]; done) | (refine ⟨?_, rfl⟩; simp only [aheadB, c_20, c_27, c_32, ↓reduceIte, if_true, if_false, eq_self]; done) | exact ⟨rfl, rfl⟩ | (refine ⟨?_, rfl⟩; simp [aheadB, c_20, c_27, c_32]; done) | (simp [aheadB, c_20, c_27, c_32]; done) | grind [aheadB])

theorem ok_yX8_atPlace : COK RX8 yX8_atPlace cX8_atPlace 6 (some .int) 2 := ⟨im_yX8_atPlace, se_RX8_yX8_atPlace, in_RX8, co_yX8_atPlace, ⟨rfl, by decide +kernel, by decide +kernel, by decide +kernel⟩, by decide⟩
set_option maxHeartbeats 1000000 in
set_option maxRecDepth 100000 in
theorem c_X8_atPlace (l : Launch) {D : va_G} {ct : Nat → ClassId} {ek ad : Nat → Nat} {N0 : Nat} {X : va_W} {F : State → Prop} (σ : Mem) (pb : Nat) (hpb : isP pb) (w : Int32) (x : Int32) (n : Nat) (hn : σ pb 7 = nI n) (hn6 : n ≤ 6) : MI l yX8_atPlace cX8_atPlace 6 (some .int) 3 D ct ek ad N0 X F [.ref (ad pb), .int w, .int x] σ (fun r τ => r = srch (fun k => cntB (fun q => aheadB (measV σ pb n w q) (measV σ pb n w k) (nI q) (nI k)) n) x n 0 ∧ τ = σ) := by
  refine ms0 (own := RX8) (by decide) rfl (Nat.le_of_ble_eq_true rfl) (fun p e s m args below meth c S hr hlocks hnm G hP hS ls hl => ?_)
  have hx := S.1
  have hb := S.2.1
  replace hl : lv_has ls 6 [(0, .ref (ad pb)), (1, .int w), (2, .int x)] := hl
  refine lv_iconst (v := 0) hx hb dX8_atPlace_0 (by decide) ?_
  refine lv_istore_n (lv' := [(3, .int 0), (0, .ref (ad pb)), (1, .int w), (2, .int x)]) hx hb dX8_atPlace_1 rfl hl (by decide) rfl (fun ls hl => ?_)
  have key_2 : ∀ (d k : Nat), k + d = n → (srch (fun k => cntB (fun q => aheadB (measV σ pb n w q) (measV σ pb n w k) (nI q) (nI k)) n) x n 0 = srch (fun k => cntB (fun q => aheadB (measV σ pb n w q) (measV σ pb n w k) (nI q) (nI k)) n) x d k) → ∀ (H : Heap) (locs : List Loc) (ls : Array Slot), wP D ct ek ad X σ H → va_S (fr N0) s.heap H locs → lv_has ls 6 [(3, .int (nI k)), (0, .ref (ad pb)), (1, .int w), (2, .int x)] → W p l e (rmd 3 0 0) s m args below meth c H locs 0 0 (MQ below (wQi D ct ek ad N0 X (fun r τ => r = srch (fun k => cntB (fun q => aheadB (measV σ pb n w q) (measV σ pb n w k) (nI q) (nI k)) n) x n 0 ∧ τ = σ)) args s 0 0 (fr N0)) (F0 m 2 ls []) := by
    intro d
    induction d with
    | zero =>
      intro k9 hk
      obtain rfl : n = k9 := by omega
      intro hs H locs ls hP hS hl
      refine lv_iload_n hx hb dX8_atPlace_2 rfl (lv_at hl 0 rfl) ?_
      refine lv_aload_n hx hb dX8_atPlace_3 rfl (lv_at hl 1 rfl) ?_
      refine gf S G hP pb 7 (isPl0 hpb) (oP hpb) rfl inX8 (by decide) fl_RX8_40 rfl rfl dX8_atPlace_4 ?_
      refine lv_icmp_ge (tgt := 59) hx hb dX8_atPlace_7 (by decide) (fun c_7 => ?_) (fun c_7 => absurd (by rw [hn]; exact nI_le (by omega) (by omega)) c_7)
      refine lv_iconst (v := (-1)) hx hb dX8_atPlace_59 (by decide) ?_
      exact eI S hr hlocks hP hS dX8_atPlace_60 (by first | exact ⟨by rw [hs]; rfl, rfl⟩ | exact ⟨by rw [hs]; simp [srch, c_7], rfl⟩)
    | succ d ih =>
      intro k hk hs H locs ls hP hS hl
      have hkn : k < n := by omega
      refine lv_iload_n hx hb dX8_atPlace_2 rfl (lv_at hl 0 rfl) ?_
      refine lv_aload_n hx hb dX8_atPlace_3 rfl (lv_at hl 1 rfl) ?_
      refine gf S G hP pb 7 (isPl0 hpb) (oP hpb) rfl inX8 (by decide) fl_RX8_40 rfl rfl dX8_atPlace_4 ?_
      refine lv_icmp_ge (tgt := 59) hx hb dX8_atPlace_7 (by decide) (fun c_7 => absurd c_7 (by rw [hn]; exact nI_ge (by omega) (by omega))) (fun c_7 => ?_)
      refine lv_iconst (v := 0) hx hb dX8_atPlace_10 (by decide) ?_
      refine lv_istore (lv' := [(4, .int 0), (3, .int (nI k)), (0, .ref (ad pb)), (1, .int w), (2, .int x)]) hx hb dX8_atPlace_11 hl (by decide) rfl (fun ls hl => ?_)
      refine lv_iconst (v := 0) hx hb dX8_atPlace_13 (by decide) ?_
      refine lv_istore (lv' := [(5, .int 0), (4, .int 0), (3, .int (nI k)), (0, .ref (ad pb)), (1, .int w), (2, .int x)]) hx hb dX8_atPlace_14 hl (by decide) rfl (fun ls hl => ?_)
      have key_16 : ∀ (d2 t : Nat), t + d2 = n → ∀ (H : Heap) (locs : List Loc) (ls : Array Slot), wP D ct ek ad X σ H → va_S (fr N0) s.heap H locs → lv_has ls 6 [(5, .int (nI t)), (4, .int (cntB (fun q => aheadB (measV σ pb n w q) (measV σ pb n w k) (nI q) (nI k)) t)), (3, .int (nI k)), (0, .ref (ad pb)), (1, .int w), (2, .int x)] → W p l e (rmd 3 0 0) s m args below meth c H locs 0 0 (MQ below (wQi D ct ek ad N0 X (fun r τ => r = srch (fun k => cntB (fun q => aheadB (measV σ pb n w q) (measV σ pb n w k) (nI q) (nI k)) n) x n 0 ∧ τ = σ)) args s 0 0 (fr N0)) (F0 m 16 ls []) := by
        intro d2
        induction d2 with
        | zero =>
          intro k9 hk
          obtain rfl : n = k9 := by omega
          intro  H locs ls hP hS hl
          refine lv_iload hx hb dX8_atPlace_16 (lv_at hl 0 rfl) ?_
          refine lv_aload_n hx hb dX8_atPlace_18 rfl (lv_at hl 3 rfl) ?_
          refine gf S G hP pb 7 (isPl0 hpb) (oP hpb) rfl inX8 (by decide) fl_RX8_40 rfl rfl dX8_atPlace_19 ?_
          refine lv_icmp_ge (tgt := 45) hx hb dX8_atPlace_22 (by decide) (fun c_22 => ?_) (fun c_22 => absurd (by rw [hn]; exact nI_le (by omega) (by omega)) c_22)
          refine lv_iload hx hb dX8_atPlace_45 (lv_at hl 1 rfl) ?_
          refine lv_iload_n hx hb dX8_atPlace_47 rfl (lv_at hl 5 rfl) ?_
          refine lv_icmp_ne (tgt := 53) hx hb dX8_atPlace_48 (by decide) (fun c_48 => ?_) (fun c_48 => ?_)
          · refine lv_iinc (v := nI (k + 1)) (lv' := [(3, .int (nI (k + 1))), (5, .int (nI n)), (4, .int (cntB (fun q => aheadB (measV σ pb n w q) (measV σ pb n w k) (nI q) (nI k)) n)), (0, .ref (ad pb)), (1, .int w), (2, .int x)]) hx hb dX8_atPlace_53 hl (k := 2) rfl (nI_inc _) (by decide) rfl (fun ls hl => ?_)
            refine lv_goto (tgt := 2) hx hb dX8_atPlace_56 (by decide) ?_
            exact ih (k + 1) (by omega) (by rw [hs]; simp [srch, c_7, c_22, c_48]) _ _ _ hP hS (by first | (refine lv_v (lv_sub (l' := [(3, .int (nI (k + 1))), (0, .ref (ad pb)), (1, .int w), (2, .int x)]) hl [0, 3, 4, 5] rfl) ?_; simp [fo, c_7, c_22, c_48]; done) | exact lv_sub hl [0, 3, 4, 5] rfl)
          · refine lv_iload_n hx hb dX8_atPlace_51 rfl (lv_at hl 2 rfl) ?_
            exact eI S hr hlocks hP hS dX8_atPlace_52 (by first | exact ⟨by rw [hs]; rfl, rfl⟩ | exact ⟨by rw [hs]; simp [srch, c_7, c_22, c_48], rfl⟩)
        | succ d2 ih =>
          intro t hk  H locs ls hP hS hl
          have htn : t < n := by omega
          refine lv_iload hx hb dX8_atPlace_16 (lv_at hl 0 rfl) ?_
          refine lv_aload_n hx hb dX8_atPlace_18 rfl (lv_at hl 3 rfl) ?_
          refine gf S G hP pb 7 (isPl0 hpb) (oP hpb) rfl inX8 (by decide) fl_RX8_40 rfl rfl dX8_atPlace_19 ?_
          refine lv_icmp_ge (tgt := 45) hx hb dX8_atPlace_22 (by decide) (fun c_22 => absurd c_22 (by rw [hn]; exact nI_ge (by omega) (by omega))) (fun c_22 => ?_)
          refine lv_aload_n hx hb dX8_atPlace_25 rfl (lv_at hl 3 rfl) ?_
          refine lv_iload_n hx hb dX8_atPlace_26 rfl (lv_at hl 4 rfl) ?_
          refine lv_iload hx hb dX8_atPlace_27 (lv_at hl 0 rfl) ?_
          refine lv_iload_n hx hb dX8_atPlace_29 rfl (lv_at hl 2 rfl) ?_
          refine cVie (As := [.int w, .int (nI t), .int (nI k)]) S G pb (c_X8_isAhead l (D := D) (ct := ct) (ek := ek) (ad := ad) (N0 := N0) (X := X) (F := F) σ pb hpb w t (by omega) k (by omega) n (by first | assumption | omega | (simp [sg_at]; assumption) | (simp [sg_at]; done)) (by omega)) ok_yX8_isAhead ml_RX8_83 (isPl0 hpb) (oP hpb) rfl hP hS hl.1 rfl (by decide) rfl rfl (Nat.le_of_ble_eq_true rfl) ⟨Nat.zero_le _, Nat.zero_le _⟩ dX8_atPlace_30 (fun H locs hP hS => ?_)
          refine lv_if_eq (tgt := 39) hx hb dX8_atPlace_33 (by decide) (fun c_33 => ?_) (fun c_33 => ?_)
          · refine lv_iinc (v := nI (t + 1)) (lv' := [(5, .int (nI (t + 1))), (4, .int (cntB (fun q => aheadB (measV σ pb n w q) (measV σ pb n w k) (nI q) (nI k)) t)), (3, .int (nI k)), (0, .ref (ad pb)), (1, .int w), (2, .int x)]) hx hb dX8_atPlace_39 hl (k := 0) rfl (nI_inc _) (by decide) rfl (fun ls hl => ?_)
            refine lv_goto (tgt := 16) hx hb dX8_atPlace_42 (by decide) ?_
            exact ih (t + 1) (by omega)  _ _ _ hP hS (by first | (refine lv_v (lv_sub (l' := [(5, .int (nI (t + 1))), (4, .int (cntB (fun q => aheadB (measV σ pb n w q) (measV σ pb n w k) (nI q) (nI k)) t)), (3, .int (nI k)), (0, .ref (ad pb)), (1, .int w), (2, .int x)]) hl [0, 1, 2, 3, 4, 5] rfl) ?_; simp [fo, cntB, c_7, c_22, c_33]; done) | exact lv_sub hl [0, 1, 2, 3, 4, 5] rfl)
          · refine lv_iinc (v := (cntB (fun q => aheadB (measV σ pb n w q) (measV σ pb n w k) (nI q) (nI k)) t) + 1) (lv' := [(4, .int ((cntB (fun q => aheadB (measV σ pb n w q) (measV σ pb n w k) (nI q) (nI k)) t) + 1)), (5, .int (nI t)), (3, .int (nI k)), (0, .ref (ad pb)), (1, .int w), (2, .int x)]) hx hb dX8_atPlace_36 hl (k := 1) rfl rfl (by decide) rfl (fun ls hl => ?_)
            refine lv_iinc (v := nI (t + 1)) (lv' := [(5, .int (nI (t + 1))), (4, .int ((cntB (fun q => aheadB (measV σ pb n w q) (measV σ pb n w k) (nI q) (nI k)) t) + 1)), (3, .int (nI k)), (0, .ref (ad pb)), (1, .int w), (2, .int x)]) hx hb dX8_atPlace_39 hl (k := 1) rfl (nI_inc _) (by decide) rfl (fun ls hl => ?_)
            refine lv_goto (tgt := 16) hx hb dX8_atPlace_42 (by decide) ?_
            exact ih (t + 1) (by omega)  _ _ _ hP hS (by first | (refine lv_v (lv_sub (l' := [(5, .int (nI (t + 1))), (4, .int ((cntB (fun q => aheadB (measV σ pb n w q) (measV σ pb n w k) (nI q) (nI k)) t) + 1)), (3, .int (nI k)), (0, .ref (ad pb)), (1, .int w), (2, .int x)]) hl [0, 1, 2, 3, 4, 5] rfl) ?_; simp [fo, cntB, c_7, c_22, c_33]; done) | exact lv_sub hl [0, 1, 2, 3, 4, 5] rfl)
      exact key_16 n 0 (by omega)  _ _ _ hP hS (lv_sub hl [0, 1, 2, 3, 4, 5] rfl)
  exact key_2 n 0 (by omega) rfl _ _ _ hP hS (lv_sub hl [0, 1, 2, 3] rfl)

theorem ok_yX8_copyFrom : COK RX8 yX8_copyFrom cX8_copyFrom 3 none 1 := ⟨im_yX8_copyFrom, se_RX8_yX8_copyFrom, in_RX8, co_yX8_copyFrom, ⟨rfl, by decide +kernel, by decide +kernel, by decide +kernel⟩, by decide⟩
set_option maxHeartbeats 1000000 in
set_option maxRecDepth 100000 in
theorem c_X8_copyFrom (l : Launch) {D : va_G} {ct : Nat → ClassId} {ek ad : Nat → Nat} {N0 : Nat} {X : va_W} {F : State → Prop} (σ : Mem) (pb : Nat) (hpb : isP pb) (qb : Nat) (hqb : isP qb) (ha : pb + 14 ≤ qb ∨ qb + 14 ≤ pb) (hz : ∀ j, j < 6 → vp_nar .boolean (σ (qb + 3) j) = σ (qb + 3) j) : MV l yX8_copyFrom cX8_copyFrom 3 1 D ct ek ad N0 X F [.ref (ad pb), .ref (ad qb)] σ (fun τ => CpP τ σ pb qb 6 ∧ τ pb 7 = σ qb 7) := by
  refine ms0 (own := RX8) (by decide) rfl (Nat.le_of_ble_eq_true rfl) (fun p e s m args below meth c S hr hlocks hnm G hP hS ls hl => ?_)
  have hx := S.1
  have hb := S.2.1
  replace hl : lv_has ls 3 [(0, .ref (ad pb)), (1, .ref (ad qb))] := hl
  refine lv_iconst (v := 0) hx hb dX8_copyFrom_0 (by decide) ?_
  refine lv_istore_n (lv' := [(2, .int 0), (0, .ref (ad pb)), (1, .ref (ad qb))]) hx hb dX8_copyFrom_1 rfl hl (by decide) rfl (fun ls hl => ?_)
  have key_2 : ∀ (d k : Nat), k + d = 6 → ∀ (τ : Mem), (CpP τ σ pb qb k ∧ τ pb 7 = σ pb 7) → ∀ (H : Heap) (locs : List Loc) (ls : Array Slot), wP D ct ek ad X τ H → va_S (fr N0) s.heap H locs → lv_has ls 3 [(2, .int (nI k)), (0, .ref (ad pb)), (1, .ref (ad qb))] → W p l e (rmd 1 0 0) s m args below meth c H locs 0 0 (MQ below (wQv D ct ek ad N0 X (fun τ => CpP τ σ pb qb 6 ∧ τ pb 7 = σ qb 7)) args s 0 0 (fr N0)) (F0 m 2 ls []) := by
    intro d
    induction d with
    | zero =>
      intro k9 hk
      obtain rfl : 6 = k9 := by omega
      intro τ hτ H locs ls hP hS hl
      refine lv_iload_n hx hb dX8_copyFrom_2 rfl (lv_at hl 0 rfl) ?_
      refine lv_bipush (v := 6) hx hb dX8_copyFrom_3 (by decide) ?_
      refine lv_icmp_ge (tgt := 93) hx hb dX8_copyFrom_5 (by decide) (fun c_5 => ?_) (fun c_5 => absurd (by decide) c_5)
      refine lv_aload_n hx hb dX8_copyFrom_93 rfl (lv_at hl 1 rfl) ?_
      refine lv_aload_n hx hb dX8_copyFrom_94 rfl (lv_at hl 2 rfl) ?_
      refine gf S G hP qb 7 (isPl0 hqb) (oP hqb) rfl inX8 (by decide) fl_RX8_40 rfl rfl dX8_copyFrom_95 ?_
      refine pf S G hP hS pb 7 (x := τ qb 7) tyX8 tyX8_ok nmX8 (isPl0 hpb) (oP hpb) rfl inX8 (by decide) fl_RX8_40 rfl rfl rfl rfl (Nat.le_of_ble_eq_true rfl) (oP hpb) dX8_copyFrom_98 (fun H locs hP hS => ?_)
      refine eV S hr hlocks hP hS dX8_copyFrom_101 ?_
      have e0 := hτ.1.1 qb (by omega)
      refine ⟨⟨fun c hc => ?_, fun o j h1 h2 h3 => ?_, fun r j h1 h2 => ?_⟩, ?_⟩
      · have e1 := hτ.1.1 c hc; funext j; have e2 := congrFun e1 j; grind [sg_at]
      · have e1 := hτ.1.2.1 o j h1 h2 h3; grind [sg_at]
      · have e1 := hτ.1.2.2 r j h1 h2; grind [sg_at]
      · grind [sg_at]
    | succ d ih =>
      intro k hk τ hτ H locs ls hP hS hl
      have hkn : k < 6 := by omega
      refine lv_iload_n hx hb dX8_copyFrom_2 rfl (lv_at hl 0 rfl) ?_
      refine lv_bipush (v := 6) hx hb dX8_copyFrom_3 (by decide) ?_
      refine lv_icmp_ge (tgt := 93) hx hb dX8_copyFrom_5 (by decide) (fun c_5 => absurd c_5 (nI_ge (b := 6) (by omega) (by omega))) (fun c_5 => ?_)
      refine lv_aload_n hx hb dX8_copyFrom_8 rfl (lv_at hl 1 rfl) ?_
      refine gf S G hP pb 0 (isPl0 hpb) (oP hpb) rfl inX8 (by decide) fl_RX8_9 rfl rfl dX8_copyFrom_9 ?_
      refine lv_iload_n hx hb dX8_copyFrom_12 rfl (lv_at hl 0 rfl) ?_
      refine lv_aload_n hx hb dX8_copyFrom_13 rfl (lv_at hl 2 rfl) ?_
      refine gf S G hP qb 0 (isPl0 hqb) (oP hqb) rfl inX8 (by decide) fl_RX8_9 rfl rfl dX8_copyFrom_14 ?_
      refine lv_iload_n hx hb dX8_copyFrom_17 rfl (lv_at hl 0 rfl) ?_
      refine ald S G hP (qb + 1) k (isPl hqb (by decide)) ((aP1 hqb) _) rfl (by omega) (by decide) dX8_copyFrom_18 ?_
      refine ast S G hP hS (pb + 1) k (isPl hpb (by decide)) (aP1 hpb) rfl (by omega) (by decide) dX8_copyFrom_19 (fun H locs hP hS => ?_)
      refine lv_aload_n hx hb dX8_copyFrom_20 rfl (lv_at hl 1 rfl) ?_
      refine gf S G hP pb 1 (isPl0 hpb) (oP hpb) rfl inX8 (by decide) fl_RX8_13 rfl rfl dX8_copyFrom_21 ?_
      refine lv_iload_n hx hb dX8_copyFrom_24 rfl (lv_at hl 0 rfl) ?_
      refine lv_aload_n hx hb dX8_copyFrom_25 rfl (lv_at hl 2 rfl) ?_
      refine gf S G hP qb 1 (isPl0 hqb) (oP hqb) rfl inX8 (by decide) fl_RX8_13 rfl rfl dX8_copyFrom_26 ?_
      refine lv_iload_n hx hb dX8_copyFrom_29 rfl (lv_at hl 0 rfl) ?_
      refine ald S G hP (qb + 2) k (isPl hqb (by decide)) ((aP2 hqb) _) rfl (by omega) (by decide) dX8_copyFrom_30 ?_
      refine lv_tope (y := τ (qb + 2) k) (by grind [sg_at]) ?_
      refine ast S G hP hS (pb + 2) k (isPl hpb (by decide)) (aP2 hpb) rfl (by omega) (by decide) dX8_copyFrom_31 (fun H locs hP hS => ?_)
      refine lv_aload_n hx hb dX8_copyFrom_32 rfl (lv_at hl 1 rfl) ?_
      refine gf S G hP pb 2 (isPl0 hpb) (oP hpb) rfl inX8 (by decide) fl_RX8_16 rfl rfl dX8_copyFrom_33 ?_
      refine lv_iload_n hx hb dX8_copyFrom_36 rfl (lv_at hl 0 rfl) ?_
      refine lv_aload_n hx hb dX8_copyFrom_37 rfl (lv_at hl 2 rfl) ?_
      refine gf S G hP qb 2 (isPl0 hqb) (oP hqb) rfl inX8 (by decide) fl_RX8_16 rfl rfl dX8_copyFrom_38 ?_
      refine lv_iload_n hx hb dX8_copyFrom_41 rfl (lv_at hl 0 rfl) ?_
      refine zld S G hP (qb + 3) k (isPl hqb (by decide)) ((aP3 hqb) _) rfl (by omega) (by decide) dX8_copyFrom_42 ?_
      refine lv_tope (y := τ (qb + 3) k) (by grind [sg_at]) ?_
      refine zst S G hP hS (pb + 3) k (isPl hpb (by decide)) (aP3 hpb) rfl (by omega) (by decide) (by rw [congrFun (hτ.1.1 (qb + 3) (by omega)) k]; exact hz k hkn) dX8_copyFrom_43 (fun H locs hP hS => ?_)
      refine lv_aload_n hx hb dX8_copyFrom_44 rfl (lv_at hl 1 rfl) ?_
      refine gf S G hP pb 3 (isPl0 hpb) (oP hpb) rfl inX8 (by decide) fl_RX8_20 rfl rfl dX8_copyFrom_45 ?_
      refine lv_iload_n hx hb dX8_copyFrom_48 rfl (lv_at hl 0 rfl) ?_
      refine lv_aload_n hx hb dX8_copyFrom_49 rfl (lv_at hl 2 rfl) ?_
      refine gf S G hP qb 3 (isPl0 hqb) (oP hqb) rfl inX8 (by decide) fl_RX8_20 rfl rfl dX8_copyFrom_50 ?_
      refine lv_iload_n hx hb dX8_copyFrom_53 rfl (lv_at hl 0 rfl) ?_
      refine ald S G hP (qb + 4) k (isPl hqb (by decide)) ((aP4 hqb) _) rfl (by omega) (by decide) dX8_copyFrom_54 ?_
      refine lv_tope (y := τ (qb + 4) k) (by grind [sg_at]) ?_
      refine ast S G hP hS (pb + 4) k (isPl hpb (by decide)) (aP4 hpb) rfl (by omega) (by decide) dX8_copyFrom_55 (fun H locs hP hS => ?_)
      refine lv_aload_n hx hb dX8_copyFrom_56 rfl (lv_at hl 1 rfl) ?_
      refine gf S G hP pb 4 (isPl0 hpb) (oP hpb) rfl inX8 (by decide) fl_RX8_23 rfl rfl dX8_copyFrom_57 ?_
      refine lv_iload_n hx hb dX8_copyFrom_60 rfl (lv_at hl 0 rfl) ?_
      refine lv_aload_n hx hb dX8_copyFrom_61 rfl (lv_at hl 2 rfl) ?_
      refine gf S G hP qb 4 (isPl0 hqb) (oP hqb) rfl inX8 (by decide) fl_RX8_23 rfl rfl dX8_copyFrom_62 ?_
      refine lv_iload_n hx hb dX8_copyFrom_65 rfl (lv_at hl 0 rfl) ?_
      refine ald S G hP (qb + 5) k (isPl hqb (by decide)) ((aP5 hqb) _) rfl (by omega) (by decide) dX8_copyFrom_66 ?_
      refine lv_tope (y := τ (qb + 5) k) (by grind [sg_at]) ?_
      refine ast S G hP hS (pb + 5) k (isPl hpb (by decide)) (aP5 hpb) rfl (by omega) (by decide) dX8_copyFrom_67 (fun H locs hP hS => ?_)
      refine lv_aload_n hx hb dX8_copyFrom_68 rfl (lv_at hl 2 rfl) ?_
      refine gf S G hP qb 5 (isPl0 hqb) (oP hqb) rfl inX8 (by decide) fl_RX8_28 rfl rfl dX8_copyFrom_69 ?_
      refine lv_iload_n hx hb dX8_copyFrom_72 rfl (lv_at hl 0 rfl) ?_
      refine gld S G hP (qb + 6) k (isPl hqb (by decide)) ((gP6 hqb) _) rfl (by omega) (by decide) (if_pos (by omega)) dX8_copyFrom_73 ?_
      refine lv_iconst (v := 0) hx hb dX8_copyFrom_74 (by decide) ?_
      refine lv_aload_n hx hb dX8_copyFrom_75 rfl (lv_at hl 1 rfl) ?_
      refine gf S G hP pb 5 (isPl0 hpb) (oP hpb) rfl inX8 (by decide) fl_RX8_28 rfl rfl dX8_copyFrom_76 ?_
      refine lv_iload_n hx hb dX8_copyFrom_79 rfl (lv_at hl 0 rfl) ?_
      refine gld S G hP (pb + 6) k (isPl hpb (by decide)) ((gP6 hpb) _) rfl (by omega) (by decide) (if_pos (by omega)) dX8_copyFrom_80 ?_
      refine lv_iconst (v := 0) hx hb dX8_copyFrom_81 (by decide) ?_
      refine lv_bipush (v := 6) hx hb dX8_copyFrom_82 (by decide) ?_
      refine rcpy S G hP hS (qb + 7 + k) (pb + 7 + k) 6 rfl (by decide) hl.1 ml_RX8_34 (isPlw hqb (by omega)) (isPlw hpb (by omega)) ((aPw hqb (by omega)) _) (aPw hpb (by omega)) (by decide) (by decide) (by decide) (by omega) (by omega) (by omega) (Nat.le_of_ble_eq_true rfl) dX8_copyFrom_84 (fun H locs hP hS => ?_)
      have e8 : (sg (sg (sg (sg (sg τ (pb + 1) k (τ (qb + 1) k)) (pb + 2) k (τ (qb + 2) k)) (pb + 3) k (τ (qb + 3) k)) (pb + 4) k (τ (qb + 4) k)) (pb + 5) k (τ (qb + 5) k)) (qb + 7 + k) = τ (qb + 7 + k) := by funext j; grind [sg_at]
      have e9 : (sg (sg (sg (sg (sg τ (pb + 1) k (τ (qb + 1) k)) (pb + 2) k (τ (qb + 2) k)) (pb + 3) k (τ (qb + 3) k)) (pb + 4) k (τ (qb + 4) k)) (pb + 5) k (τ (qb + 5) k)) (pb + 7 + k) = τ (pb + 7 + k) := by funext j; grind [sg_at]
      rw [e8, e9] at hP
      refine lv_iinc (v := nI (k + 1)) (lv' := [(2, .int (nI (k + 1))), (0, .ref (ad pb)), (1, .ref (ad qb))]) hx hb dX8_copyFrom_87 hl (k := 0) rfl (nI_inc _) (by decide) rfl (fun ls hl => ?_)
      refine lv_goto (tgt := 2) hx hb dX8_copyFrom_90 (by decide) ?_
      exact ih (k + 1) (by omega) _ (⟨CpP_s ha hkn hτ.1, by have e1 := hτ.2; grind [sg_at, sbAp]⟩) _ _ _ hP hS (by first | exact lv_sub hl [0, 1, 2] rfl | (refine lv_v (lv_sub (l' := [(2, .int (nI (k + 1))), (0, .ref (ad pb)), (1, .ref (ad qb))]) hl [0, 1, 2] rfl) ?_; simp [fo, c_5]; done))
  exact key_2 6 0 (by omega) _ (⟨CpP_0, rfl⟩) _ _ _ hP hS (lv_sub hl [0, 1, 2] rfl)

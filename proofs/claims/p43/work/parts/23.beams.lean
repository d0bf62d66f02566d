/-! People: a round; Beams: the walks (laid by wip/p43/spec_beams.py) -/
theorem ok_yX8_passRound : COK RX8 yX8_passRound cX8_passRound 4 (some .int) 0 := ⟨im_yX8_passRound, se_RX8_yX8_passRound, in_RX8, co_yX8_passRound, ⟨rfl, by decide +kernel, by decide +kernel, by decide +kernel⟩, by decide⟩
set_option maxHeartbeats 1000000 in
set_option maxRecDepth 100000 in
theorem c_X8_passRound (l : Launch) {D : va_G} {ct : Nat → ClassId} {ek ad : Nat → Nat} {N0 : Nat} {X : va_W} {F : State → Prop} (σ : Mem) (pb : Nat) (hpb : isP pb) (n : Nat) (hn : σ pb 7 = nI n) (hn6 : n ≤ 6) : MI l yX8_passRound cX8_passRound 4 (some .int) 2 D ct ek ad N0 X F [.ref (ad pb)] σ (fun r τ => r = cntB (fun q => abI (moveV σ pb n q)) n ∧ τ = prM σ pb n n) := by
  refine ms0 (own := RX8) (by decide) rfl (Nat.le_of_ble_eq_true rfl) (fun p e s m args below meth c S hr hlocks hnm G hP hS ls hl => ?_)
  have hx := S.1
  have hb := S.2.1
  replace hl : lv_has ls 4 [(0, .ref (ad pb))] := hl
  refine lv_iconst (v := 0) hx hb dX8_passRound_0 (by decide) ?_
  refine lv_istore_n (lv' := [(1, .int 0), (0, .ref (ad pb))]) hx hb dX8_passRound_1 rfl hl (by decide) rfl (fun ls hl => ?_)
  have key_2 : ∀ (d k : Nat), k + d = n → ∀ (H : Heap) (locs : List Loc) (ls : Array Slot), wP D ct ek ad X (sb σ (pb + 13) (fil (moveV σ pb n) (σ (pb + 13)) k)) H → va_S (fr N0) s.heap H locs → lv_has ls 4 [(1, .int (nI k)), (0, .ref (ad pb))] → W p l e (rmd 2 0 0) s m args below meth c H locs 0 0 (MQ below (wQi D ct ek ad N0 X (fun r τ => r = cntB (fun q => abI (moveV σ pb n q)) n ∧ τ = prM σ pb n n)) args s 0 0 (fr N0)) (F0 m 2 ls []) := by
    intro d
    induction d with
    | zero =>
      intro k9 hk
      obtain rfl : n = k9 := by omega
      intro  H locs ls hP hS hl
      refine lv_iload_n hx hb dX8_passRound_2 rfl (lv_at hl 0 rfl) ?_
      refine lv_aload_n hx hb dX8_passRound_3 rfl (lv_at hl 1 rfl) ?_
      refine gf S G hP pb 7 (isPl0 hpb) (oP hpb) rfl inX8 (by decide) fl_RX8_40 rfl rfl dX8_passRound_4 ?_
      refine lv_icmp_ge (tgt := 27) hx hb dX8_passRound_7 (by decide) (fun c_7 => ?_) (fun c_7 => absurd (by rw [(show sb σ (pb + 13) (fil (moveV σ pb n) (σ (pb + 13)) n) pb 7 = nI n from by rw [sb_n (by omega)]; exact hn)]; exact nI_le (by omega) (by omega)) c_7)
      refine lv_iconst (v := 0) hx hb dX8_passRound_27 (by decide) ?_
      refine lv_istore_n (lv' := [(1, .int 0), (0, .ref (ad pb))]) hx hb dX8_passRound_28 rfl hl (by decide) rfl (fun ls hl => ?_)
      refine lv_iconst (v := 0) hx hb dX8_passRound_29 (by decide) ?_
      refine lv_istore_n (lv' := [(2, .int 0), (1, .int 0), (0, .ref (ad pb))]) hx hb dX8_passRound_30 rfl hl (by decide) rfl (fun ls hl => ?_)
      have key_31 : ∀ (d k : Nat), k + d = n → ∀ (H : Heap) (locs : List Loc) (ls : Array Slot), wP D ct ek ad X (prM σ pb n k) H → va_S (fr N0) s.heap H locs → lv_has ls 4 [(2, .int (nI k)), (1, .int (cntB (fun q => abI (moveV σ pb n q)) k)), (0, .ref (ad pb))] → W p l e (rmd 2 0 0) s m args below meth c H locs 0 0 (MQ below (wQi D ct ek ad N0 X (fun r τ => r = cntB (fun q => abI (moveV σ pb n q)) n ∧ τ = prM σ pb n n)) args s 0 0 (fr N0)) (F0 m 31 ls []) := by
        intro d
        induction d with
        | zero =>
          intro k9 hk
          obtain rfl : n = k9 := by omega
          intro  H locs ls hP hS hl
          refine lv_iload_n hx hb dX8_passRound_31 rfl (lv_at hl 0 rfl) ?_
          refine lv_aload_n hx hb dX8_passRound_32 rfl (lv_at hl 2 rfl) ?_
          refine gf S G hP pb 7 (isPl0 hpb) (oP hpb) rfl inX8 (by decide) fl_RX8_40 rfl rfl dX8_passRound_33 ?_
          refine lv_icmp_ge (tgt := 103) hx hb dX8_passRound_36 (by decide) (fun c_36 => ?_) (fun c_36 => absurd (by rw [(show prM σ pb n n pb 7 = nI n from by rw [prM_ap]; simp [hn])]; exact nI_le (by omega) (by omega)) c_36)
          refine lv_iload_n hx hb dX8_passRound_103 rfl (lv_at hl 1 rfl) ?_
          exact eI S hr hlocks hP hS dX8_passRound_104 (by first | exact ⟨rfl, rfl⟩ | (refine ⟨?_, rfl⟩; simp [c_7, c_36]; done) | (simp [c_7, c_36]; done) | (simp only [c_7, c_36, ↓reduceIte, if_true, if_false, and_self, true_and]; done) | grind [])
        | succ d ih =>
          intro k hk  H locs ls hP hS hl
          have hkn : k < n := by omega
          refine lv_iload_n hx hb dX8_passRound_31 rfl (lv_at hl 0 rfl) ?_
          refine lv_aload_n hx hb dX8_passRound_32 rfl (lv_at hl 2 rfl) ?_
          refine gf S G hP pb 7 (isPl0 hpb) (oP hpb) rfl inX8 (by decide) fl_RX8_40 rfl rfl dX8_passRound_33 ?_
          refine lv_icmp_ge (tgt := 103) hx hb dX8_passRound_36 (by decide) (fun c_36 => absurd c_36 (by rw [(show prM σ pb n k pb 7 = nI n from by rw [prM_ap]; simp [hn])]; exact nI_ge (by omega) (by omega))) (fun c_36 => ?_)
          refine lv_aload_n hx hb dX8_passRound_39 rfl (lv_at hl 2 rfl) ?_
          refine gf S G hP pb 6 (isPl0 hpb) (oP hpb) rfl inX8 (by decide) fl_RX8_31 rfl rfl dX8_passRound_40 ?_
          refine lv_iload_n hx hb dX8_passRound_43 rfl (lv_at hl 0 rfl) ?_
          refine ald S G hP (pb + 13) k (isPl hpb (by decide)) ((aP13 hpb) _) rfl (by omega) (by decide) dX8_passRound_44 ?_
          refine lv_tope (y := moveV σ pb n k) (by grind [prM_ap]) ?_
          refine rabs S rfl (by decide) hl.1 ml_RX8_50 (Nat.le_of_ble_eq_true rfl) ⟨Nat.zero_le _, Nat.zero_le _⟩ dX8_passRound_45 ?_
          refine lv_istore_n (lv' := [(3, .int (abI (moveV σ pb n k))), (2, .int (nI k)), (1, .int (cntB (fun q => abI (moveV σ pb n q)) k)), (0, .ref (ad pb))]) hx hb dX8_passRound_48 rfl hl (by decide) rfl (fun ls hl => ?_)
          refine lv_aload_n hx hb dX8_passRound_49 rfl (lv_at hl 3 rfl) ?_
          refine gf S G hP pb 0 (isPl0 hpb) (oP hpb) rfl inX8 (by decide) fl_RX8_9 rfl rfl dX8_passRound_50 ?_
          refine lv_iload_n hx hb dX8_passRound_53 rfl (lv_at hl 1 rfl) ?_
          refine lv_dup2_11 hx hb dX8_passRound_54 rfl rfl ?_
          refine ald S G hP (pb + 1) k (isPl hpb (by decide)) ((aP1 hpb) _) rfl (by omega) (by decide) dX8_passRound_55 ?_
          refine lv_tope (y := σ (pb + 1) k) (by grind [prM_ap]) ?_
          refine lv_aload_n hx hb dX8_passRound_56 rfl (lv_at hl 3 rfl) ?_
          refine gf S G hP pb 6 (isPl0 hpb) (oP hpb) rfl inX8 (by decide) fl_RX8_31 rfl rfl dX8_passRound_57 ?_
          refine lv_iload_n hx hb dX8_passRound_60 rfl (lv_at hl 1 rfl) ?_
          refine ald S G hP (pb + 13) k (isPl hpb (by decide)) ((aP13 hpb) _) rfl (by omega) (by decide) dX8_passRound_61 ?_
          refine lv_tope (y := moveV σ pb n k) (by grind [prM_ap, sg_at]) ?_
          refine lv_iadd hx hb dX8_passRound_62 ?_
          refine ast S G hP hS (pb + 1) k (isPl hpb (by decide)) (aP1 hpb) rfl (by omega) (by decide) dX8_passRound_63 (fun H locs hP hS => ?_)
          refine lv_aload_n hx hb dX8_passRound_64 rfl (lv_at hl 3 rfl) ?_
          refine gf S G hP pb 4 (isPl0 hpb) (oP hpb) rfl inX8 (by decide) fl_RX8_23 rfl rfl dX8_passRound_65 ?_
          refine lv_iload_n hx hb dX8_passRound_68 rfl (lv_at hl 1 rfl) ?_
          refine lv_dup2_11 hx hb dX8_passRound_69 rfl rfl ?_
          refine ald S G hP (pb + 5) k (isPl hpb (by decide)) ((aP5 hpb) _) rfl (by omega) (by decide) dX8_passRound_70 ?_
          refine lv_tope (y := σ (pb + 5) k) (by grind [prM_ap, sg_at]) ?_
          refine lv_iload_n hx hb dX8_passRound_71 rfl (lv_at hl 0 rfl) ?_
          refine lv_iadd hx hb dX8_passRound_72 ?_
          refine ast S G hP hS (pb + 5) k (isPl hpb (by decide)) (aP5 hpb) rfl (by omega) (by decide) dX8_passRound_73 (fun H locs hP hS => ?_)
          refine lv_aload_n hx hb dX8_passRound_74 rfl (lv_at hl 3 rfl) ?_
          refine gf S G hP pb 1 (isPl0 hpb) (oP hpb) rfl inX8 (by decide) fl_RX8_13 rfl rfl dX8_passRound_75 ?_
          refine lv_iload_n hx hb dX8_passRound_78 rfl (lv_at hl 1 rfl) ?_
          refine lv_aload_n hx hb dX8_passRound_79 rfl (lv_at hl 3 rfl) ?_
          refine gf S G hP pb 1 (isPl0 hpb) (oP hpb) rfl inX8 (by decide) fl_RX8_13 rfl rfl dX8_passRound_80 ?_
          refine lv_iload_n hx hb dX8_passRound_83 rfl (lv_at hl 1 rfl) ?_
          refine ald S G hP (pb + 2) k (isPl hpb (by decide)) ((aP2 hpb) _) rfl (by omega) (by decide) dX8_passRound_84 ?_
          refine lv_tope (y := σ (pb + 2) k) (by grind [prM_ap, sg_at]) ?_
          refine lv_iload_n hx hb dX8_passRound_85 rfl (lv_at hl 0 rfl) ?_
          refine cSie (As := [.int (σ (pb + 2) k), .int (abI (moveV σ pb n k))]) S G (c_X8_habitBehind l (D := D) (ct := ct) (ek := ek) (ad := ad) (N0 := N0) (X := X) (F := F) (sg (sg (prM σ pb n k) (pb + 1) k ((σ (pb + 1) k) + (moveV σ pb n k))) (pb + 5) k ((σ (pb + 5) k) + (abI (moveV σ pb n k)))) (σ (pb + 2) k) (abI (moveV σ pb n k))) ok_yX8_habitBehind ml_RX8_71 hP hS hl.1 rfl (by decide) rfl rfl (Nat.le_of_ble_eq_true rfl) ⟨Nat.zero_le _, Nat.zero_le _⟩ dX8_passRound_86 (fun H locs hP hS => ?_)
          refine ast S G hP hS (pb + 2) k (isPl hpb (by decide)) (aP2 hpb) rfl (by omega) (by decide) dX8_passRound_89 (fun H locs hP hS => ?_)
          refine lv_iload_n hx hb dX8_passRound_90 rfl (lv_at hl 0 rfl) ?_
          refine lv_if_eq (tgt := 97) hx hb dX8_passRound_91 (by decide) (fun c_91 => ?_) (fun c_91 => ?_)
          · refine lv_iinc (v := nI (k + 1)) (lv' := [(2, .int (nI (k + 1))), (3, .int (abI (moveV σ pb n k))), (1, .int (cntB (fun q => abI (moveV σ pb n q)) k)), (0, .ref (ad pb))]) hx hb dX8_passRound_97 hl (k := 1) rfl (nI_inc _) (by decide) rfl (fun ls hl => ?_)
            refine lv_goto (tgt := 31) hx hb dX8_passRound_100 (by decide) ?_
            exact ih (k + 1) (by omega)  _ _ _ (wP_e hP prM_s) hS (by first | (refine lv_v (lv_sub (l' := [(2, .int (nI (k + 1))), (1, .int (cntB (fun q => abI (moveV σ pb n q)) k)), (0, .ref (ad pb))]) hl [0, 2, 3] rfl) ?_; simp [fo, cntB, c_7, c_36, c_91]; done) | exact lv_sub hl [0, 2, 3] rfl)
          · refine lv_iinc (v := (cntB (fun q => abI (moveV σ pb n q)) k) + 1) (lv' := [(1, .int ((cntB (fun q => abI (moveV σ pb n q)) k) + 1)), (3, .int (abI (moveV σ pb n k))), (2, .int (nI k)), (0, .ref (ad pb))]) hx hb dX8_passRound_94 hl (k := 2) rfl rfl (by decide) rfl (fun ls hl => ?_)
            refine lv_iinc (v := nI (k + 1)) (lv' := [(2, .int (nI (k + 1))), (1, .int ((cntB (fun q => abI (moveV σ pb n q)) k) + 1)), (3, .int (abI (moveV σ pb n k))), (0, .ref (ad pb))]) hx hb dX8_passRound_97 hl (k := 2) rfl (nI_inc _) (by decide) rfl (fun ls hl => ?_)
            refine lv_goto (tgt := 31) hx hb dX8_passRound_100 (by decide) ?_
            exact ih (k + 1) (by omega)  _ _ _ (wP_e hP prM_s) hS (by first | (refine lv_v (lv_sub (l' := [(2, .int (nI (k + 1))), (1, .int ((cntB (fun q => abI (moveV σ pb n q)) k) + 1)), (0, .ref (ad pb))]) hl [0, 1, 3] rfl) ?_; simp [fo, cntB, c_7, c_36, c_91]; done) | exact lv_sub hl [0, 1, 3] rfl)
      exact key_31 n 0 (by omega)  _ _ _ (wP_e hP prM_0) hS (lv_sub hl [0, 1, 2] rfl)
    | succ d ih =>
      intro k hk  H locs ls hP hS hl
      have hkn : k < n := by omega
      refine lv_iload_n hx hb dX8_passRound_2 rfl (lv_at hl 0 rfl) ?_
      refine lv_aload_n hx hb dX8_passRound_3 rfl (lv_at hl 1 rfl) ?_
      refine gf S G hP pb 7 (isPl0 hpb) (oP hpb) rfl inX8 (by decide) fl_RX8_40 rfl rfl dX8_passRound_4 ?_
      refine lv_icmp_ge (tgt := 27) hx hb dX8_passRound_7 (by decide) (fun c_7 => absurd c_7 (by rw [(show sb σ (pb + 13) (fil (moveV σ pb n) (σ (pb + 13)) k) pb 7 = nI n from by rw [sb_n (by omega)]; exact hn)]; exact nI_ge (by omega) (by omega))) (fun c_7 => ?_)
      refine lv_aload_n hx hb dX8_passRound_10 rfl (lv_at hl 1 rfl) ?_
      refine gf S G hP pb 6 (isPl0 hpb) (oP hpb) rfl inX8 (by decide) fl_RX8_31 rfl rfl dX8_passRound_11 ?_
      refine lv_iload_n hx hb dX8_passRound_14 rfl (lv_at hl 0 rfl) ?_
      refine lv_aload_n hx hb dX8_passRound_15 rfl (lv_at hl 1 rfl) ?_
      refine lv_iload_n hx hb dX8_passRound_16 rfl (lv_at hl 0 rfl) ?_
      refine cVie (As := [.int (nI k)]) S G pb (c_X8_moveOf l (D := D) (ct := ct) (ek := ek) (ad := ad) (N0 := N0) (X := X) (F := F) (sb σ (pb + 13) (fil (moveV σ pb n) (σ (pb + 13)) k)) pb hpb k (by omega) n (by rw [sb_n (by omega)]; exact hn) (by omega)) ok_yX8_moveOf ml_RX8_68 (isPl0 hpb) (oP hpb) rfl hP hS hl.1 rfl (by decide) rfl rfl (Nat.le_of_ble_eq_true rfl) ⟨Nat.zero_le _, Nat.zero_le _⟩ dX8_passRound_17 (fun H locs hP hS => ?_)
      refine lv_tope (y := moveV σ pb n k) (moveV_c (fun c h => sb_n h) (by omega)) ?_
      refine ast S G hP hS (pb + 13) k (isPl hpb (by decide)) (aP13 hpb) rfl (by omega) (by decide) dX8_passRound_20 (fun H locs hP hS => ?_)
      refine lv_iinc (v := nI (k + 1)) (lv' := [(1, .int (nI (k + 1))), (0, .ref (ad pb))]) hx hb dX8_passRound_21 hl (k := 0) rfl (nI_inc _) (by decide) rfl (fun ls hl => ?_)
      refine lv_goto (tgt := 2) hx hb dX8_passRound_24 (by decide) ?_
      exact ih (k + 1) (by omega)  _ _ _ (wP_e hP (by rw [sg_sb, fil_s rfl])) hS (by first | exact lv_sub hl [0, 1] rfl | (refine lv_v (lv_sub (l' := [(1, .int (nI (k + 1))), (0, .ref (ad pb))]) hl [0, 1] rfl) ?_; simp [fo, c_7]; done))
  exact key_2 n 0 (by omega)  _ _ _ (wP_e hP (by rw [fil_0, sb_self])) hS (lv_sub hl [0, 1] rfl)

theorem ok_yX1_isLimit : COKs RX1 yX1_isLimit cX1_isLimit 1 (some .boolean) 1 := ⟨sm_yX1_isLimit, in_RX1, co_yX1_isLimit, ⟨rfl, by decide +kernel, by decide +kernel, by decide +kernel⟩, by decide⟩
set_option maxHeartbeats 1000000 in
set_option maxRecDepth 100000 in
theorem c_X1_isLimit (l : Launch) {D : va_G} {ct : Nat → ClassId} {ek ad : Nat → Nat} {N0 : Nat} {X : va_W} {F : State → Prop} (σ : Mem) (x : Int32) : MI l yX1_isLimit cX1_isLimit 1 (some .boolean) 0 D ct ek ad N0 X F [.int x] σ (fun r τ => r = rngB x 0 40 ∧ τ = σ) := by
  refine ms0 (own := RX1) (by decide) rfl (Nat.le_of_ble_eq_true rfl) (fun p e s m args below meth c S hr hlocks hnm G hP hS ls hl => ?_)
  have hx := S.1
  have hb := S.2.1
  replace hl : lv_has ls 1 [(0, .int x)] := hl
  refine lv_iload_n hx hb dX1_isLimit_0 rfl (lv_at hl 0 rfl) ?_
  refine lv_if_lt (tgt := 14) hx hb dX1_isLimit_1 (by decide) (fun c_1 => ?_) (fun c_1 => ?_)
  · refine lv_iconst (v := 0) hx hb dX1_isLimit_14 (by decide) ?_
    exact eZ S hr hlocks hP hS (by decide) dX1_isLimit_15 (by first | (refine ⟨?_, ?_⟩ <;> simp only [rngB, c_1, ↓reduceIte, if_true, if_false, eq_self]; done) | (refine ⟨?_, rfl⟩; simp only [rngB, c_1, ↓reduceIte, if_true, if_false, eq_self]; done) | exact ⟨rfl, rfl⟩ | (refine ⟨?_, rfl⟩; simp [rngB, c_1]; done) | (simp [rngB, c_1]; done) | grind [rngB])
  · refine lv_iload_n hx hb dX1_isLimit_4 rfl (lv_at hl 0 rfl) ?_
    refine lv_bipush (v := 40) hx hb dX1_isLimit_5 (by decide) ?_
    refine lv_icmp_gt (tgt := 14) hx hb dX1_isLimit_7 (by decide) (fun c_7 => ?_) (fun c_7 => ?_)
    · refine lv_iconst (v := 0) hx hb dX1_isLimit_14 (by decide) ?_
      exact eZ S hr hlocks hP hS (by decide) dX1_isLimit_15 (by first | (refine ⟨?_, ?_⟩ <;> simp only [rngB, c_1, c_7, ↓reduceIte, if_true, if_false, eq_self]; done) | (refine ⟨?_, rfl⟩; simp only [rngB, c_1, c_7, ↓reduceIte, if_true, if_false, eq_self]; done) | exact ⟨rfl, rfl⟩ | (refine ⟨?_, rfl⟩; simp [rngB, c_1, c_7]; done) | (simp [rngB, c_1, c_7]; done) | grind [rngB])
    · refine lv_iconst (v := 1) hx hb dX1_isLimit_10 (by decide) ?_
      refine lv_goto (tgt := 15) hx hb dX1_isLimit_11 (by decide) ?_
      exact eZ S hr hlocks hP hS (by decide) dX1_isLimit_15 (by first | (refine ⟨?_, ?_⟩ <;> simp only [rngB, c_1, c_7, ↓reduceIte, if_true, if_false, eq_self]; done) | (refine ⟨?_, rfl⟩; simp only [rngB, c_1, c_7, ↓reduceIte, if_true, if_false, eq_self]; done) | exact ⟨rfl, rfl⟩ | (refine ⟨?_, rfl⟩; simp [rngB, c_1, c_7]; done) | (simp [rngB, c_1, c_7]; done) | grind [rngB])

theorem ok_yX1_holds : COK RX1 yX1_holds cX1_holds 2 (some .boolean) 1 := ⟨im_yX1_holds, se_RX1_yX1_holds, in_RX1, co_yX1_holds, ⟨rfl, by decide +kernel, by decide +kernel, by decide +kernel⟩, by decide⟩
set_option maxHeartbeats 1000000 in
set_option maxRecDepth 100000 in
theorem c_X1_holds (l : Launch) {D : va_G} {ct : Nat → ClassId} {ek ad : Nat → Nat} {N0 : Nat} {X : va_W} {F : State → Prop} (σ : Mem) (bb : Nat) (hbb : isB bb) (x : Int32) : MI l yX1_holds cX1_holds 2 (some .boolean) 0 D ct ek ad N0 X F [.ref (ad bb), .int x] σ (fun r τ => r = holdB x (σ bb 4) ∧ τ = σ) := by
  refine ms0 (own := RX1) (by decide) rfl (Nat.le_of_ble_eq_true rfl) (fun p e s m args below meth c S hr hlocks hnm G hP hS ls hl => ?_)
  have hx := S.1
  have hb := S.2.1
  replace hl : lv_has ls 2 [(0, .ref (ad bb)), (1, .int x)] := hl
  refine lv_iload_n hx hb dX1_holds_0 rfl (lv_at hl 1 rfl) ?_
  refine lv_if_lt (tgt := 16) hx hb dX1_holds_1 (by decide) (fun c_1 => ?_) (fun c_1 => ?_)
  · refine lv_iconst (v := 0) hx hb dX1_holds_16 (by decide) ?_
    exact eZ S hr hlocks hP hS (by decide) dX1_holds_17 (by first | (refine ⟨?_, ?_⟩ <;> simp only [holdB, c_1, ↓reduceIte, if_true, if_false, eq_self]; done) | (refine ⟨?_, rfl⟩; simp only [holdB, c_1, ↓reduceIte, if_true, if_false, eq_self]; done) | exact ⟨rfl, rfl⟩ | (refine ⟨?_, rfl⟩; simp [holdB, c_1]; done) | (simp [holdB, c_1]; done) | grind [holdB])
  · refine lv_iload_n hx hb dX1_holds_4 rfl (lv_at hl 1 rfl) ?_
    refine lv_aload_n hx hb dX1_holds_5 rfl (lv_at hl 0 rfl) ?_
    refine gf S G hP bb 4 (isBl0 hbb) (oB hbb) rfl inX1 (by decide) fl_RX1_28 rfl rfl dX1_holds_6 ?_
    refine lv_icmp_ge (tgt := 16) hx hb dX1_holds_9 (by decide) (fun c_9 => ?_) (fun c_9 => ?_)
    · refine lv_iconst (v := 0) hx hb dX1_holds_16 (by decide) ?_
      exact eZ S hr hlocks hP hS (by decide) dX1_holds_17 (by first | (refine ⟨?_, ?_⟩ <;> simp only [holdB, c_1, c_9, ↓reduceIte, if_true, if_false, eq_self]; done) | (refine ⟨?_, rfl⟩; simp only [holdB, c_1, c_9, ↓reduceIte, if_true, if_false, eq_self]; done) | exact ⟨rfl, rfl⟩ | (refine ⟨?_, rfl⟩; simp [holdB, c_1, c_9]; done) | (simp [holdB, c_1, c_9]; done) | grind [holdB])
    · refine lv_iconst (v := 1) hx hb dX1_holds_12 (by decide) ?_
      refine lv_goto (tgt := 17) hx hb dX1_holds_13 (by decide) ?_
      exact eZ S hr hlocks hP hS (by decide) dX1_holds_17 (by first | (refine ⟨?_, ?_⟩ <;> simp only [holdB, c_1, c_9, ↓reduceIte, if_true, if_false, eq_self]; done) | (refine ⟨?_, rfl⟩; simp only [holdB, c_1, c_9, ↓reduceIte, if_true, if_false, eq_self]; done) | exact ⟨rfl, rfl⟩ | (refine ⟨?_, rfl⟩; simp [holdB, c_1, c_9]; done) | (simp [holdB, c_1, c_9]; done) | grind [holdB])

theorem ok_yX1_isFull : COK RX1 yX1_isFull cX1_isFull 1 (some .boolean) 0 := ⟨im_yX1_isFull, se_RX1_yX1_isFull, in_RX1, co_yX1_isFull, ⟨rfl, by decide +kernel, by decide +kernel, by decide +kernel⟩, by decide⟩
set_option maxHeartbeats 1000000 in
set_option maxRecDepth 100000 in
theorem c_X1_isFull (l : Launch) {D : va_G} {ct : Nat → ClassId} {ek ad : Nat → Nat} {N0 : Nat} {X : va_W} {F : State → Prop} (σ : Mem) (bb : Nat) (hbb : isB bb) : MI l yX1_isFull cX1_isFull 1 (some .boolean) 0 D ct ek ad N0 X F [.ref (ad bb)] σ (fun r τ => r = (if σ bb 4 < 6 then 0 else 1) ∧ τ = σ) := by
  refine ms0 (own := RX1) (by decide) rfl (Nat.le_of_ble_eq_true rfl) (fun p e s m args below meth c S hr hlocks hnm G hP hS ls hl => ?_)
  have hx := S.1
  have hb := S.2.1
  replace hl : lv_has ls 1 [(0, .ref (ad bb))] := hl
  refine lv_aload_n hx hb dX1_isFull_0 rfl (lv_at hl 0 rfl) ?_
  refine gf S G hP bb 4 (isBl0 hbb) (oB hbb) rfl inX1 (by decide) fl_RX1_28 rfl rfl dX1_isFull_1 ?_
  refine lv_bipush (v := 6) hx hb dX1_isFull_4 (by decide) ?_
  refine lv_icmp_lt (tgt := 13) hx hb dX1_isFull_6 (by decide) (fun c_6 => ?_) (fun c_6 => ?_)
  · refine lv_iconst (v := 0) hx hb dX1_isFull_13 (by decide) ?_
    exact eZ S hr hlocks hP hS (by decide) dX1_isFull_14 (by first | exact ⟨rfl, rfl⟩ | (refine ⟨?_, rfl⟩; simp [c_6]; done) | (simp [c_6]; done) | (simp only [c_6, ↓reduceIte, if_true, if_false, and_self, true_and]; done) | grind [])
  · refine lv_iconst (v := 1) hx hb dX1_isFull_9 (by decide) ?_
    refine lv_goto (tgt := 14) hx hb dX1_isFull_10 (by decide) ?_
    exact eZ S hr hlocks hP hS (by decide) dX1_isFull_14 (by first | exact ⟨rfl, rfl⟩ | (refine ⟨?_, rfl⟩; simp [c_6]; done) | (simp [c_6]; done) | (simp only [c_6, ↓reduceIte, if_true, if_false, and_self, true_and]; done) | grind [])

theorem ok_yX1_between : COK RX1 yX1_between cX1_between 6 (some .int) 2 := ⟨im_yX1_between, se_RX1_yX1_between, in_RX1, co_yX1_between, ⟨rfl, by decide +kernel, by decide +kernel, by decide +kernel⟩, by decide⟩
set_option maxHeartbeats 1000000 in
set_option maxRecDepth 100000 in
theorem c_X1_between (l : Launch) {D : va_G} {ct : Nat → ClassId} {ek ad : Nat → Nat} {N0 : Nat} {X : va_W} {F : State → Prop} (σ : Mem) (bb : Nat) (hbb : isB bb) (x : Int32) (y : Int32) (mb : Nat) (hm : σ bb 4 = nI mb) (hm6 : mb ≤ 6) : MI l yX1_between cX1_between 6 (some .int) 1 D ct ek ad N0 X F [.ref (ad bb), .int x, .int y] σ (fun r τ => r = srch (bmB σ bb (mnI x y) (mxI x y)) 1 mb 0 ∧ τ = σ) := by
  refine ms0 (own := RX1) (by decide) rfl (Nat.le_of_ble_eq_true rfl) (fun p e s m args below meth c S hr hlocks hnm G hP hS ls hl => ?_)
  have hx := S.1
  have hb := S.2.1
  replace hl : lv_has ls 6 [(0, .ref (ad bb)), (1, .int x), (2, .int y)] := hl
  refine lv_iload_n hx hb dX1_between_0 rfl (lv_at hl 1 rfl) ?_
  refine lv_iload_n hx hb dX1_between_1 rfl (lv_at hl 2 rfl) ?_
  refine rmin S rfl (by decide) hl.1 ml_RX1_32 (Nat.le_of_ble_eq_true rfl) ⟨Nat.zero_le _, Nat.zero_le _⟩ dX1_between_2 ?_
  refine lv_istore_n (lv' := [(3, .int (mnI x y)), (0, .ref (ad bb)), (1, .int x), (2, .int y)]) hx hb dX1_between_5 rfl hl (by decide) rfl (fun ls hl => ?_)
  refine lv_iload_n hx hb dX1_between_6 rfl (lv_at hl 2 rfl) ?_
  refine lv_iload_n hx hb dX1_between_7 rfl (lv_at hl 3 rfl) ?_
  refine rmax S rfl (by decide) hl.1 ml_RX1_38 (Nat.le_of_ble_eq_true rfl) ⟨Nat.zero_le _, Nat.zero_le _⟩ dX1_between_8 ?_
  refine lv_istore (lv' := [(4, .int (mxI x y)), (3, .int (mnI x y)), (0, .ref (ad bb)), (1, .int x), (2, .int y)]) hx hb dX1_between_11 hl (by decide) rfl (fun ls hl => ?_)
  refine lv_iconst (v := 0) hx hb dX1_between_13 (by decide) ?_
  refine lv_istore (lv' := [(5, .int 0), (4, .int (mxI x y)), (3, .int (mnI x y)), (0, .ref (ad bb)), (1, .int x), (2, .int y)]) hx hb dX1_between_14 hl (by decide) rfl (fun ls hl => ?_)
  have key_16 : ∀ (d k : Nat), k + d = mb → (srch (bmB σ bb (mnI x y) (mxI x y)) 1 mb 0 = srch (bmB σ bb (mnI x y) (mxI x y)) 1 d k) → ∀ (H : Heap) (locs : List Loc) (ls : Array Slot), wP D ct ek ad X σ H → va_S (fr N0) s.heap H locs → lv_has ls 6 [(5, .int (nI k)), (4, .int (mxI x y)), (3, .int (mnI x y)), (0, .ref (ad bb)), (1, .int x), (2, .int y)] → W p l e (rmd 1 0 0) s m args below meth c H locs 0 0 (MQ below (wQi D ct ek ad N0 X (fun r τ => r = srch (bmB σ bb (mnI x y) (mxI x y)) 1 mb 0 ∧ τ = σ)) args s 0 0 (fr N0)) (F0 m 16 ls []) := by
    intro d
    induction d with
    | zero =>
      intro k9 hk
      obtain rfl : mb = k9 := by omega
      intro hs H locs ls hP hS hl
      refine lv_iload hx hb dX1_between_16 (lv_at hl 0 rfl) ?_
      refine lv_aload_n hx hb dX1_between_18 rfl (lv_at hl 3 rfl) ?_
      refine gf S G hP bb 4 (isBl0 hbb) (oB hbb) rfl inX1 (by decide) fl_RX1_28 rfl rfl dX1_between_19 ?_
      refine lv_icmp_ge (tgt := 57) hx hb dX1_between_22 (by decide) (fun c_22 => ?_) (fun c_22 => absurd (by rw [hm]; exact nI_le (by omega) (by omega)) c_22)
      refine lv_iconst (v := (-1)) hx hb dX1_between_57 (by decide) ?_
      exact eI S hr hlocks hP hS dX1_between_58 (by first | exact ⟨by rw [hs]; rfl, rfl⟩ | exact ⟨by rw [hs]; simp [srch, bmB, c_22], rfl⟩)
    | succ d ih =>
      intro k hk hs H locs ls hP hS hl
      have hkn : k < mb := by omega
      refine lv_iload hx hb dX1_between_16 (lv_at hl 0 rfl) ?_
      refine lv_aload_n hx hb dX1_between_18 rfl (lv_at hl 3 rfl) ?_
      refine gf S G hP bb 4 (isBl0 hbb) (oB hbb) rfl inX1 (by decide) fl_RX1_28 rfl rfl dX1_between_19 ?_
      refine lv_icmp_ge (tgt := 57) hx hb dX1_between_22 (by decide) (fun c_22 => absurd c_22 (by rw [hm]; exact nI_ge (by omega) (by omega))) (fun c_22 => ?_)
      refine lv_aload_n hx hb dX1_between_25 rfl (lv_at hl 3 rfl) ?_
      refine gf S G hP bb 0 (isBl0 hbb) (oB hbb) rfl inX1 (by decide) fl_RX1_9 rfl rfl dX1_between_26 ?_
      refine lv_iload hx hb dX1_between_29 (lv_at hl 0 rfl) ?_
      refine ald S G hP (bb + 1) k (isBl hbb (by decide)) ((aB1 hbb) _) rfl (by omega) (by decide) dX1_between_31 ?_
      refine lv_iload_n hx hb dX1_between_32 rfl (lv_at hl 2 rfl) ?_
      refine lv_icmp_ne (tgt := 51) hx hb dX1_between_33 (by decide) (fun c_33 => ?_) (fun c_33 => ?_)
      · refine lv_iinc (v := nI (k + 1)) (lv' := [(5, .int (nI (k + 1))), (4, .int (mxI x y)), (3, .int (mnI x y)), (0, .ref (ad bb)), (1, .int x), (2, .int y)]) hx hb dX1_between_51 hl (k := 0) rfl (nI_inc _) (by decide) rfl (fun ls hl => ?_)
        refine lv_goto (tgt := 16) hx hb dX1_between_54 (by decide) ?_
        exact ih (k + 1) (by omega) (by rw [hs]; simp [srch, bmB, c_22, c_33]) _ _ _ hP hS (by first | (refine lv_v (lv_sub (l' := [(5, .int (nI (k + 1))), (4, .int (mxI x y)), (3, .int (mnI x y)), (0, .ref (ad bb)), (1, .int x), (2, .int y)]) hl [0, 1, 2, 3, 4, 5] rfl) ?_; simp [fo, c_22, c_33]; done) | exact lv_sub hl [0, 1, 2, 3, 4, 5] rfl)
      · refine lv_aload_n hx hb dX1_between_36 rfl (lv_at hl 3 rfl) ?_
        refine gf S G hP bb 1 (isBl0 hbb) (oB hbb) rfl inX1 (by decide) fl_RX1_13 rfl rfl dX1_between_37 ?_
        refine lv_iload hx hb dX1_between_40 (lv_at hl 0 rfl) ?_
        refine ald S G hP (bb + 2) k (isBl hbb (by decide)) ((aB2 hbb) _) rfl (by omega) (by decide) dX1_between_42 ?_
        refine lv_iload hx hb dX1_between_43 (lv_at hl 1 rfl) ?_
        refine lv_icmp_ne (tgt := 51) hx hb dX1_between_45 (by decide) (fun c_45 => ?_) (fun c_45 => ?_)
        · refine lv_iinc (v := nI (k + 1)) (lv' := [(5, .int (nI (k + 1))), (4, .int (mxI x y)), (3, .int (mnI x y)), (0, .ref (ad bb)), (1, .int x), (2, .int y)]) hx hb dX1_between_51 hl (k := 0) rfl (nI_inc _) (by decide) rfl (fun ls hl => ?_)
          refine lv_goto (tgt := 16) hx hb dX1_between_54 (by decide) ?_
          exact ih (k + 1) (by omega) (by rw [hs]; simp [srch, bmB, c_22, c_33, c_45]) _ _ _ hP hS (by first | (refine lv_v (lv_sub (l' := [(5, .int (nI (k + 1))), (4, .int (mxI x y)), (3, .int (mnI x y)), (0, .ref (ad bb)), (1, .int x), (2, .int y)]) hl [0, 1, 2, 3, 4, 5] rfl) ?_; simp [fo, c_22, c_33, c_45]; done) | exact lv_sub hl [0, 1, 2, 3, 4, 5] rfl)
        · refine lv_iload hx hb dX1_between_48 (lv_at hl 0 rfl) ?_
          exact eI S hr hlocks hP hS dX1_between_50 (by first | exact ⟨by rw [hs]; rfl, rfl⟩ | exact ⟨by rw [hs]; simp [srch, bmB, c_22, c_33, c_45], rfl⟩)
  exact key_16 mb 0 (by omega) rfl _ _ _ hP hS (lv_sub hl [0, 1, 2, 3, 4, 5] rfl)

theorem ok_yX1_put : COK RX1 yX1_put cX1_put 5 (some .int) 3 := ⟨im_yX1_put, se_RX1_yX1_put, in_RX1, co_yX1_put, ⟨rfl, by decide +kernel, by decide +kernel, by decide +kernel⟩, by decide⟩
set_option maxHeartbeats 1000000 in
set_option maxRecDepth 100000 in
theorem c_X1_put (l : Launch) {D : va_G} {ct : Nat → ClassId} {ek ad : Nat → Nat} {N0 : Nat} {X : va_W} {F : State → Prop} (σ : Mem) (bb : Nat) (hbb : isB bb) (x : Int32) (y : Int32) (z : Int32) (mb : Nat) (hm : σ bb 4 = nI mb) (hm6 : mb < 6) : MI l yX1_put cX1_put 5 (some .int) 1 D ct ek ad N0 X F [.ref (ad bb), .int x, .int y, .int z] σ (fun r τ => r = nI mb ∧ τ = sg (sg (sg (sg (sg σ (bb + 1) mb (mnI x y)) (bb + 2) mb (mxI x y)) (bb + 3) mb z) (bb + 4) mb 0) bb 4 (nI (mb + 1))) := by
  refine ms0 (own := RX1) (by decide) rfl (Nat.le_of_ble_eq_true rfl) (fun p e s m args below meth c S hr hlocks hnm G hP hS ls hl => ?_)
  have hx := S.1
  have hb := S.2.1
  replace hl : lv_has ls 5 [(0, .ref (ad bb)), (1, .int x), (2, .int y), (3, .int z)] := hl
  refine lv_aload_n hx hb dX1_put_0 rfl (lv_at hl 0 rfl) ?_
  refine gf S G hP bb 4 (isBl0 hbb) (oB hbb) rfl inX1 (by decide) fl_RX1_28 rfl rfl dX1_put_1 ?_
  refine lv_istore (lv' := [(4, .int (σ bb 4)), (0, .ref (ad bb)), (1, .int x), (2, .int y), (3, .int z)]) hx hb dX1_put_4 hl (by decide) rfl (fun ls hl => ?_)
  refine lv_aload_n hx hb dX1_put_6 rfl (lv_at hl 1 rfl) ?_
  refine gf S G hP bb 0 (isBl0 hbb) (oB hbb) rfl inX1 (by decide) fl_RX1_9 rfl rfl dX1_put_7 ?_
  refine lv_iload hx hb dX1_put_10 (lv_at hl 0 rfl) ?_
  refine lv_iload_n hx hb dX1_put_12 rfl (lv_at hl 2 rfl) ?_
  refine lv_iload_n hx hb dX1_put_13 rfl (lv_at hl 3 rfl) ?_
  refine rmin S rfl (by decide) hl.1 ml_RX1_32 (Nat.le_of_ble_eq_true rfl) ⟨Nat.zero_le _, Nat.zero_le _⟩ dX1_put_14 ?_
  refine ast S G hP hS (bb + 1) mb (isBl hbb (by decide)) (aB1 hbb) (by simp [sg_at, hm]) (by omega) (by decide) dX1_put_17 (fun H locs hP hS => ?_)
  refine lv_aload_n hx hb dX1_put_18 rfl (lv_at hl 1 rfl) ?_
  refine gf S G hP bb 1 (isBl0 hbb) (oB hbb) rfl inX1 (by decide) fl_RX1_13 rfl rfl dX1_put_19 ?_
  refine lv_iload hx hb dX1_put_22 (lv_at hl 0 rfl) ?_
  refine lv_iload_n hx hb dX1_put_24 rfl (lv_at hl 2 rfl) ?_
  refine lv_iload_n hx hb dX1_put_25 rfl (lv_at hl 3 rfl) ?_
  refine rmax S rfl (by decide) hl.1 ml_RX1_38 (Nat.le_of_ble_eq_true rfl) ⟨Nat.zero_le _, Nat.zero_le _⟩ dX1_put_26 ?_
  refine ast S G hP hS (bb + 2) mb (isBl hbb (by decide)) (aB2 hbb) (by simp [sg_at, hm]) (by omega) (by decide) dX1_put_29 (fun H locs hP hS => ?_)
  refine lv_aload_n hx hb dX1_put_30 rfl (lv_at hl 1 rfl) ?_
  refine gf S G hP bb 2 (isBl0 hbb) (oB hbb) rfl inX1 (by decide) fl_RX1_16 rfl rfl dX1_put_31 ?_
  refine lv_iload hx hb dX1_put_34 (lv_at hl 0 rfl) ?_
  refine lv_iload_n hx hb dX1_put_36 rfl (lv_at hl 4 rfl) ?_
  refine ast S G hP hS (bb + 3) mb (isBl hbb (by decide)) (aB3 hbb) (by simp [sg_at, hm]) (by omega) (by decide) dX1_put_37 (fun H locs hP hS => ?_)
  refine lv_aload_n hx hb dX1_put_38 rfl (lv_at hl 1 rfl) ?_
  refine gf S G hP bb 3 (isBl0 hbb) (oB hbb) rfl inX1 (by decide) fl_RX1_19 rfl rfl dX1_put_39 ?_
  refine lv_iload hx hb dX1_put_42 (lv_at hl 0 rfl) ?_
  refine lv_iconst (v := 0) hx hb dX1_put_44 (by decide) ?_
  refine ast S G hP hS (bb + 4) mb (isBl hbb (by decide)) (aB4 hbb) (by simp [sg_at, hm]) (by omega) (by decide) dX1_put_45 (fun H locs hP hS => ?_)
  refine lv_aload_n hx hb dX1_put_46 rfl (lv_at hl 1 rfl) ?_
  refine lv_dup hx hb dX1_put_47 rfl ?_
  refine gf S G hP bb 4 (isBl0 hbb) (oB hbb) rfl inX1 (by decide) fl_RX1_28 rfl rfl dX1_put_48 ?_
  refine lv_iconst (v := 1) hx hb dX1_put_51 (by decide) ?_
  refine nadd hx hb mb 1 dX1_put_52 (by simp [sg_at, hm]) (by decide) ?_
  refine pf S G hP hS bb 4 (x := nI (mb + 1)) tyX1 tyX1_ok nmX1 (isBl0 hbb) (oB hbb) rfl inX1 (by decide) fl_RX1_28 rfl rfl rfl rfl (Nat.le_of_ble_eq_true rfl) (oB hbb) dX1_put_53 (fun H locs hP hS => ?_)
  refine lv_iload hx hb dX1_put_56 (lv_at hl 0 rfl) ?_
  exact eI S hr hlocks hP hS dX1_put_58 (by first | exact ⟨rfl, rfl⟩ | (refine ⟨?_, rfl⟩; simp [hm]; done) | (simp [hm]; done) | (simp only [hm, ↓reduceIte, if_true, if_false, and_self, true_and]; done) | grind [hm])

theorem ok_yX1_takeAway : COK RX1 yX1_takeAway cX1_takeAway 3 none 1 := ⟨im_yX1_takeAway, se_RX1_yX1_takeAway, in_RX1, co_yX1_takeAway, ⟨rfl, by decide +kernel, by decide +kernel, by decide +kernel⟩, by decide⟩
set_option maxHeartbeats 1000000 in
set_option maxRecDepth 100000 in
theorem c_X1_takeAway (l : Launch) {D : va_G} {ct : Nat → ClassId} {ek ad : Nat → Nat} {N0 : Nat} {X : va_W} {F : State → Prop} (σ : Mem) (bb : Nat) (hbb : isB bb) (i : Nat) (mb : Nat) (hm : σ bb 4 = nI mb) (hm6 : mb ≤ 6) (hi : i < mb) : MV l yX1_takeAway cX1_takeAway 3 0 D ct ek ad N0 X F [.ref (ad bb), .int (nI i)] σ (fun τ => τ = takeB σ bb i mb) := by
  refine ms0 (own := RX1) (by decide) rfl (Nat.le_of_ble_eq_true rfl) (fun p e s m args below meth c S hr hlocks hnm G hP hS ls hl => ?_)
  have hx := S.1
  have hb := S.2.1
  replace hl : lv_has ls 3 [(0, .ref (ad bb)), (1, .int (nI i))] := hl
  refine lv_iload_n hx hb dX1_takeAway_0 rfl (lv_at hl 1 rfl) ?_
  refine lv_iconst (v := 1) hx hb dX1_takeAway_1 (by decide) ?_
  refine nadd hx hb i 1 dX1_takeAway_2 rfl (by decide) ?_
  refine lv_istore_n (lv' := [(2, .int (nI (i + 1))), (0, .ref (ad bb)), (1, .int (nI i))]) hx hb dX1_takeAway_3 rfl hl (by decide) rfl (fun ls hl => ?_)
  have key_4 : ∀ (d k : Nat), k + d = mb → (i + 1 ≤ k) → ∀ (H : Heap) (locs : List Loc) (ls : Array Slot), wP D ct ek ad X (shB σ bb i k) H → va_S (fr N0) s.heap H locs → lv_has ls 3 [(2, .int (nI k)), (0, .ref (ad bb)), (1, .int (nI i))] → W p l e (rmd 0 0 0) s m args below meth c H locs 0 0 (MQ below (wQv D ct ek ad N0 X (fun τ => τ = takeB σ bb i mb)) args s 0 0 (fr N0)) (F0 m 4 ls []) := by
    intro d
    induction d with
    | zero =>
      intro k9 hk
      obtain rfl : mb = k9 := by omega
      intro hik H locs ls hP hS hl
      refine lv_iload_n hx hb dX1_takeAway_4 rfl (lv_at hl 0 rfl) ?_
      refine lv_aload_n hx hb dX1_takeAway_5 rfl (lv_at hl 1 rfl) ?_
      refine gf S G hP bb 4 (isBl0 hbb) (oB hbb) rfl inX1 (by decide) fl_RX1_28 rfl rfl dX1_takeAway_6 ?_
      refine lv_icmp_ge (tgt := 74) hx hb dX1_takeAway_9 (by decide) (fun c_9 => ?_) (fun c_9 => absurd (by rw [(show shB σ bb i mb bb 4 = nI mb from by grind [shB])]; exact nI_le (by omega) (by omega)) c_9)
      refine lv_aload_n hx hb dX1_takeAway_74 rfl (lv_at hl 1 rfl) ?_
      refine lv_dup hx hb dX1_takeAway_75 rfl ?_
      refine gf S G hP bb 4 (isBl0 hbb) (oB hbb) rfl inX1 (by decide) fl_RX1_28 rfl rfl dX1_takeAway_76 ?_
      refine lv_iconst (v := 1) hx hb dX1_takeAway_79 (by decide) ?_
      refine nsub hx hb mb 1 dX1_takeAway_80 (by grind [shB]) (by decide) (by omega) ?_
      refine pf S G hP hS bb 4 (x := nI (mb - 1)) tyX1 tyX1_ok nmX1 (isBl0 hbb) (oB hbb) rfl inX1 (by decide) fl_RX1_28 rfl rfl rfl rfl (Nat.le_of_ble_eq_true rfl) (oB hbb) dX1_takeAway_81 (fun H locs hP hS => ?_)
      exact eV S hr hlocks hP hS dX1_takeAway_84 (by first | rfl | (simp [c_9]; done) | (simp only [c_9, ↓reduceIte, if_true, if_false]; done) | grind [])
    | succ d ih =>
      intro k hk hik H locs ls hP hS hl
      have hkn : k < mb := by omega
      refine lv_iload_n hx hb dX1_takeAway_4 rfl (lv_at hl 0 rfl) ?_
      refine lv_aload_n hx hb dX1_takeAway_5 rfl (lv_at hl 1 rfl) ?_
      refine gf S G hP bb 4 (isBl0 hbb) (oB hbb) rfl inX1 (by decide) fl_RX1_28 rfl rfl dX1_takeAway_6 ?_
      refine lv_icmp_ge (tgt := 74) hx hb dX1_takeAway_9 (by decide) (fun c_9 => absurd c_9 (by rw [(show shB σ bb i k bb 4 = nI mb from by grind [shB])]; exact nI_ge (by omega) (by omega))) (fun c_9 => ?_)
      refine lv_aload_n hx hb dX1_takeAway_12 rfl (lv_at hl 1 rfl) ?_
      refine gf S G hP bb 0 (isBl0 hbb) (oB hbb) rfl inX1 (by decide) fl_RX1_9 rfl rfl dX1_takeAway_13 ?_
      refine lv_iload_n hx hb dX1_takeAway_16 rfl (lv_at hl 0 rfl) ?_
      refine lv_iconst (v := 1) hx hb dX1_takeAway_17 (by decide) ?_
      refine nsub hx hb k 1 dX1_takeAway_18 rfl (by decide) (by omega) ?_
      refine lv_aload_n hx hb dX1_takeAway_19 rfl (lv_at hl 1 rfl) ?_
      refine gf S G hP bb 0 (isBl0 hbb) (oB hbb) rfl inX1 (by decide) fl_RX1_9 rfl rfl dX1_takeAway_20 ?_
      refine lv_iload_n hx hb dX1_takeAway_23 rfl (lv_at hl 0 rfl) ?_
      refine ald S G hP (bb + 1) k (isBl hbb (by decide)) ((aB1 hbb) _) rfl (by omega) (by decide) dX1_takeAway_24 ?_
      refine lv_tope (y := σ (bb + 1) k) (by grind [shB]) ?_
      refine ast S G hP hS (bb + 1) (k - 1) (isBl hbb (by decide)) (aB1 hbb) rfl (by omega) (by decide) dX1_takeAway_25 (fun H locs hP hS => ?_)
      refine lv_aload_n hx hb dX1_takeAway_26 rfl (lv_at hl 1 rfl) ?_
      refine gf S G hP bb 1 (isBl0 hbb) (oB hbb) rfl inX1 (by decide) fl_RX1_13 rfl rfl dX1_takeAway_27 ?_
      refine lv_iload_n hx hb dX1_takeAway_30 rfl (lv_at hl 0 rfl) ?_
      refine lv_iconst (v := 1) hx hb dX1_takeAway_31 (by decide) ?_
      refine nsub hx hb k 1 dX1_takeAway_32 rfl (by decide) (by omega) ?_
      refine lv_aload_n hx hb dX1_takeAway_33 rfl (lv_at hl 1 rfl) ?_
      refine gf S G hP bb 1 (isBl0 hbb) (oB hbb) rfl inX1 (by decide) fl_RX1_13 rfl rfl dX1_takeAway_34 ?_
      refine lv_iload_n hx hb dX1_takeAway_37 rfl (lv_at hl 0 rfl) ?_
      refine ald S G hP (bb + 2) k (isBl hbb (by decide)) ((aB2 hbb) _) rfl (by omega) (by decide) dX1_takeAway_38 ?_
      refine lv_tope (y := σ (bb + 2) k) (by grind [shB, sg_at]) ?_
      refine ast S G hP hS (bb + 2) (k - 1) (isBl hbb (by decide)) (aB2 hbb) rfl (by omega) (by decide) dX1_takeAway_39 (fun H locs hP hS => ?_)
      refine lv_aload_n hx hb dX1_takeAway_40 rfl (lv_at hl 1 rfl) ?_
      refine gf S G hP bb 2 (isBl0 hbb) (oB hbb) rfl inX1 (by decide) fl_RX1_16 rfl rfl dX1_takeAway_41 ?_
      refine lv_iload_n hx hb dX1_takeAway_44 rfl (lv_at hl 0 rfl) ?_
      refine lv_iconst (v := 1) hx hb dX1_takeAway_45 (by decide) ?_
      refine nsub hx hb k 1 dX1_takeAway_46 rfl (by decide) (by omega) ?_
      refine lv_aload_n hx hb dX1_takeAway_47 rfl (lv_at hl 1 rfl) ?_
      refine gf S G hP bb 2 (isBl0 hbb) (oB hbb) rfl inX1 (by decide) fl_RX1_16 rfl rfl dX1_takeAway_48 ?_
      refine lv_iload_n hx hb dX1_takeAway_51 rfl (lv_at hl 0 rfl) ?_
      refine ald S G hP (bb + 3) k (isBl hbb (by decide)) ((aB3 hbb) _) rfl (by omega) (by decide) dX1_takeAway_52 ?_
      refine lv_tope (y := σ (bb + 3) k) (by grind [shB, sg_at]) ?_
      refine ast S G hP hS (bb + 3) (k - 1) (isBl hbb (by decide)) (aB3 hbb) rfl (by omega) (by decide) dX1_takeAway_53 (fun H locs hP hS => ?_)
      refine lv_aload_n hx hb dX1_takeAway_54 rfl (lv_at hl 1 rfl) ?_
      refine gf S G hP bb 3 (isBl0 hbb) (oB hbb) rfl inX1 (by decide) fl_RX1_19 rfl rfl dX1_takeAway_55 ?_
      refine lv_iload_n hx hb dX1_takeAway_58 rfl (lv_at hl 0 rfl) ?_
      refine lv_iconst (v := 1) hx hb dX1_takeAway_59 (by decide) ?_
      refine nsub hx hb k 1 dX1_takeAway_60 rfl (by decide) (by omega) ?_
      refine lv_aload_n hx hb dX1_takeAway_61 rfl (lv_at hl 1 rfl) ?_
      refine gf S G hP bb 3 (isBl0 hbb) (oB hbb) rfl inX1 (by decide) fl_RX1_19 rfl rfl dX1_takeAway_62 ?_
      refine lv_iload_n hx hb dX1_takeAway_65 rfl (lv_at hl 0 rfl) ?_
      refine ald S G hP (bb + 4) k (isBl hbb (by decide)) ((aB4 hbb) _) rfl (by omega) (by decide) dX1_takeAway_66 ?_
      refine lv_tope (y := σ (bb + 4) k) (by grind [shB, sg_at]) ?_
      refine ast S G hP hS (bb + 4) (k - 1) (isBl hbb (by decide)) (aB4 hbb) rfl (by omega) (by decide) dX1_takeAway_67 (fun H locs hP hS => ?_)
      refine lv_iinc (v := nI (k + 1)) (lv' := [(2, .int (nI (k + 1))), (0, .ref (ad bb)), (1, .int (nI i))]) hx hb dX1_takeAway_68 hl (k := 0) rfl (nI_inc _) (by decide) rfl (fun ls hl => ?_)
      refine lv_goto (tgt := 4) hx hb dX1_takeAway_71 (by decide) ?_
      exact ih (k + 1) (by omega) (by omega) _ _ _ (wP_e hP (shB_s hik)) hS (by first | exact lv_sub hl [0, 1, 2] rfl | (refine lv_v (lv_sub (l' := [(2, .int (nI (k + 1))), (0, .ref (ad bb)), (1, .int (nI i))]) hl [0, 1, 2] rfl) ?_; simp [fo, c_9]; done))
  exact key_4 (mb - (i + 1)) (i + 1) (by omega) (by omega) _ _ _ (wP_e hP shB_0.symm) hS (lv_sub hl [0, 1, 2] rfl)

theorem ok_yX1_differenceAt : COK RX1 yX1_differenceAt cX1_differenceAt 3 (some .int) 2 := ⟨im_yX1_differenceAt, se_RX1_yX1_differenceAt, in_RX1, co_yX1_differenceAt, ⟨rfl, by decide +kernel, by decide +kernel, by decide +kernel⟩, by decide⟩
set_option maxHeartbeats 1000000 in
set_option maxRecDepth 100000 in
theorem c_X1_differenceAt (l : Launch) {D : va_G} {ct : Nat → ClassId} {ek ad : Nat → Nat} {N0 : Nat} {X : va_W} {F : State → Prop} (σ : Mem) (bb : Nat) (hbb : isB bb) (i : Nat) (pb : Nat) (hpb : isP pb) (mb : Nat) (hB : BOK σ bb mb) (hi : i < mb) : MI l yX1_differenceAt cX1_differenceAt 3 (some .int) 2 D ct ek ad N0 X F [.ref (ad bb), .int (nI i), .ref (ad pb)] σ (fun r τ => r = diffB σ bb pb i ∧ τ = σ) := by
  refine ms0 (own := RX1) (by decide) rfl (Nat.le_of_ble_eq_true rfl) (fun p e s m args below meth c S hr hlocks hnm G hP hS ls hl => ?_)
  have hx := S.1
  have hb := S.2.1
  replace hl : lv_has ls 3 [(0, .ref (ad bb)), (1, .int (nI i)), (2, .ref (ad pb))] := hl
  have hi6 : i < 6 := by have := hB.2.1; omega
  refine lv_aload_n hx hb dX1_differenceAt_0 rfl (lv_at hl 2 rfl) ?_
  refine lv_aload_n hx hb dX1_differenceAt_1 rfl (lv_at hl 0 rfl) ?_
  refine gf S G hP bb 0 (isBl0 hbb) (oB hbb) rfl inX1 (by decide) fl_RX1_9 rfl rfl dX1_differenceAt_2 ?_
  refine lv_iload_n hx hb dX1_differenceAt_5 rfl (lv_at hl 1 rfl) ?_
  refine ald S G hP (bb + 1) i (isBl hbb (by decide)) ((aB1 hbb) _) rfl (by have := hB.2.1; omega) (by decide) dX1_differenceAt_6 ?_
  refine lv_tope (y := nI (σ (bb + 1) i).toNatClampNeg) (hB.2.2 i hi).1.1 ?_
  refine lv_aload_n hx hb dX1_differenceAt_7 rfl (lv_at hl 0 rfl) ?_
  refine gf S G hP bb 1 (isBl0 hbb) (oB hbb) rfl inX1 (by decide) fl_RX1_13 rfl rfl dX1_differenceAt_8 ?_
  refine lv_iload_n hx hb dX1_differenceAt_11 rfl (lv_at hl 1 rfl) ?_
  refine ald S G hP (bb + 2) i (isBl hbb (by decide)) ((aB2 hbb) _) rfl (by have := hB.2.1; omega) (by decide) dX1_differenceAt_12 ?_
  refine lv_tope (y := nI (σ (bb + 2) i).toNatClampNeg) (hB.2.2 i hi).2.1 ?_
  refine cVie (As := [.int (nI ((σ (bb + 1) i).toNatClampNeg)), .int (nI ((σ (bb + 2) i).toNatClampNeg))]) S G pb (c_X8_difference l (D := D) (ct := ct) (ek := ek) (ad := ad) (N0 := N0) (X := X) (F := F) σ pb hpb ((σ (bb + 1) i).toNatClampNeg) ((hB.2.2 i hi).1.2) ((σ (bb + 2) i).toNatClampNeg) ((hB.2.2 i hi).2.2)) ok_yX8_difference ml_RX1_41 (isPl0 hpb) (oP hpb) rfl hP hS hl.1 rfl (by decide) rfl rfl (Nat.le_of_ble_eq_true rfl) ⟨Nat.zero_le _, Nat.zero_le _⟩ dX1_differenceAt_13 (fun H locs hP hS => ?_)
  exact eI S hr hlocks hP hS dX1_differenceAt_16 (by first | exact ⟨rfl, rfl⟩ | (refine ⟨?_, rfl⟩; simp []; done) | (simp []; done) | (simp only [↓reduceIte, if_true, if_false, and_self, true_and]; done) | grind [])

theorem ok_yX1_isOverstrained : COK RX1 yX1_isOverstrained cX1_isOverstrained 3 (some .boolean) 2 := ⟨im_yX1_isOverstrained, se_RX1_yX1_isOverstrained, in_RX1, co_yX1_isOverstrained, ⟨rfl, by decide +kernel, by decide +kernel, by decide +kernel⟩, by decide⟩
set_option maxHeartbeats 1000000 in
set_option maxRecDepth 100000 in
theorem c_X1_isOverstrained (l : Launch) {D : va_G} {ct : Nat → ClassId} {ek ad : Nat → Nat} {N0 : Nat} {X : va_W} {F : State → Prop} (σ : Mem) (bb : Nat) (hbb : isB bb) (i : Nat) (pb : Nat) (hpb : isP pb) (mb : Nat) (hB : BOK σ bb mb) (hi : i < mb) : MI l yX1_isOverstrained cX1_isOverstrained 3 (some .boolean) 3 D ct ek ad N0 X F [.ref (ad bb), .int (nI i), .ref (ad pb)] σ (fun r τ => r = overB σ bb pb i ∧ τ = σ) := by
  refine ms0 (own := RX1) (by decide) rfl (Nat.le_of_ble_eq_true rfl) (fun p e s m args below meth c S hr hlocks hnm G hP hS ls hl => ?_)
  have hx := S.1
  have hb := S.2.1
  replace hl : lv_has ls 3 [(0, .ref (ad bb)), (1, .int (nI i)), (2, .ref (ad pb))] := hl
  have hi6 : i < 6 := by have := hB.2.1; omega
  refine lv_aload_n hx hb dX1_isOverstrained_0 rfl (lv_at hl 0 rfl) ?_
  refine lv_iload_n hx hb dX1_isOverstrained_1 rfl (lv_at hl 1 rfl) ?_
  refine lv_aload_n hx hb dX1_isOverstrained_2 rfl (lv_at hl 2 rfl) ?_
  refine cVie (As := [.int (nI i), .ref (ad pb)]) S G bb (c_X1_differenceAt l (D := D) (ct := ct) (ek := ek) (ad := ad) (N0 := N0) (X := X) (F := F) σ bb hbb i pb hpb mb (by first | assumption | omega | (simp [sg_at]; assumption) | (simp [sg_at]; done)) (by omega)) ok_yX1_differenceAt ml_RX1_46 (isBl0 hbb) (oB hbb) rfl hP hS hl.1 rfl (by decide) rfl rfl (Nat.le_of_ble_eq_true rfl) ⟨Nat.zero_le _, Nat.zero_le _⟩ dX1_isOverstrained_3 (fun H locs hP hS => ?_)
  refine lv_aload_n hx hb dX1_isOverstrained_6 rfl (lv_at hl 0 rfl) ?_
  refine gf S G hP bb 2 (isBl0 hbb) (oB hbb) rfl inX1 (by decide) fl_RX1_16 rfl rfl dX1_isOverstrained_7 ?_
  refine lv_iload_n hx hb dX1_isOverstrained_10 rfl (lv_at hl 1 rfl) ?_
  refine ald S G hP (bb + 3) i (isBl hbb (by decide)) ((aB3 hbb) _) rfl (by omega) (by decide) dX1_isOverstrained_11 ?_
  refine lv_icmp_le (tgt := 19) hx hb dX1_isOverstrained_12 (by decide) (fun c_12 => ?_) (fun c_12 => ?_)
  · refine lv_iconst (v := 0) hx hb dX1_isOverstrained_19 (by decide) ?_
    exact eZ S hr hlocks hP hS (by decide) dX1_isOverstrained_20 (by first | (refine ⟨?_, ?_⟩ <;> simp only [overB, c_12, ↓reduceIte, if_true, if_false, eq_self]; done) | (refine ⟨?_, rfl⟩; simp only [overB, c_12, ↓reduceIte, if_true, if_false, eq_self]; done) | exact ⟨rfl, rfl⟩ | (refine ⟨?_, rfl⟩; simp [overB, c_12]; done) | (simp [overB, c_12]; done) | grind [overB])
  · refine lv_iconst (v := 1) hx hb dX1_isOverstrained_15 (by decide) ?_
    refine lv_goto (tgt := 20) hx hb dX1_isOverstrained_16 (by decide) ?_
    exact eZ S hr hlocks hP hS (by decide) dX1_isOverstrained_20 (by first | (refine ⟨?_, ?_⟩ <;> simp only [overB, c_12, ↓reduceIte, if_true, if_false, eq_self]; done) | (refine ⟨?_, rfl⟩; simp only [overB, c_12, ↓reduceIte, if_true, if_false, eq_self]; done) | exact ⟨rfl, rfl⟩ | (refine ⟨?_, rfl⟩; simp [overB, c_12]; done) | (simp [overB, c_12]; done) | grind [overB])

theorem ok_yX1_creakAll : COK RX1 yX1_creakAll cX1_creakAll 4 (some .int) 1 := ⟨im_yX1_creakAll, se_RX1_yX1_creakAll, in_RX1, co_yX1_creakAll, ⟨rfl, by decide +kernel, by decide +kernel, by decide +kernel⟩, by decide⟩
set_option maxHeartbeats 1000000 in
set_option maxRecDepth 100000 in
theorem c_X1_creakAll (l : Launch) {D : va_G} {ct : Nat → ClassId} {ek ad : Nat → Nat} {N0 : Nat} {X : va_W} {F : State → Prop} (σ : Mem) (bb : Nat) (hbb : isB bb) (pb : Nat) (hpb : isP pb) (mb : Nat) (hB : BOK σ bb mb) : MI l yX1_creakAll cX1_creakAll 4 (some .int) 4 D ct ek ad N0 X F [.ref (ad bb), .ref (ad pb)] σ (fun r τ => r = cntB (overB σ bb pb) mb ∧ τ = crk σ bb pb mb) := by
  refine ms0 (own := RX1) (by decide) rfl (Nat.le_of_ble_eq_true rfl) (fun p e s m args below meth c S hr hlocks hnm G hP hS ls hl => ?_)
  have hx := S.1
  have hb := S.2.1
  replace hl : lv_has ls 4 [(0, .ref (ad bb)), (1, .ref (ad pb))] := hl
  have ha := isPB_apart hpb hbb
  have hm := hB.1
  have hm6 := hB.2.1
  have hBk : ∀ k, BOK (crk σ bb pb k) bb mb := fun k => ⟨by rw [crk_ap]; simp [hm], hm6, fun q hq => by rw [crk_ap, crk_ap]; simpa using hB.2.2 q hq⟩
  refine lv_iconst (v := 0) hx hb dX1_creakAll_0 (by decide) ?_
  refine lv_istore_n (lv' := [(2, .int 0), (0, .ref (ad bb)), (1, .ref (ad pb))]) hx hb dX1_creakAll_1 rfl hl (by decide) rfl (fun ls hl => ?_)
  refine lv_iconst (v := 0) hx hb dX1_creakAll_2 (by decide) ?_
  refine lv_istore_n (lv' := [(3, .int 0), (2, .int 0), (0, .ref (ad bb)), (1, .ref (ad pb))]) hx hb dX1_creakAll_3 rfl hl (by decide) rfl (fun ls hl => ?_)
  have key_4 : ∀ (d k : Nat), k + d = mb → ∀ (H : Heap) (locs : List Loc) (ls : Array Slot), wP D ct ek ad X (crk σ bb pb k) H → va_S (fr N0) s.heap H locs → lv_has ls 4 [(3, .int (nI k)), (2, .int (cntB (overB σ bb pb) k)), (0, .ref (ad bb)), (1, .ref (ad pb))] → W p l e (rmd 4 0 0) s m args below meth c H locs 0 0 (MQ below (wQi D ct ek ad N0 X (fun r τ => r = cntB (overB σ bb pb) mb ∧ τ = crk σ bb pb mb)) args s 0 0 (fr N0)) (F0 m 4 ls []) := by
    intro d
    induction d with
    | zero =>
      intro k9 hk
      obtain rfl : mb = k9 := by omega
      intro  H locs ls hP hS hl
      refine lv_iload_n hx hb dX1_creakAll_4 rfl (lv_at hl 0 rfl) ?_
      refine lv_aload_n hx hb dX1_creakAll_5 rfl (lv_at hl 2 rfl) ?_
      refine gf S G hP bb 4 (isBl0 hbb) (oB hbb) rfl inX1 (by decide) fl_RX1_28 rfl rfl dX1_creakAll_6 ?_
      refine lv_icmp_ge (tgt := 40) hx hb dX1_creakAll_9 (by decide) (fun c_9 => ?_) (fun c_9 => absurd (by rw [(show crk σ bb pb mb bb 4 = nI mb from (hBk mb).1)]; exact nI_le (by omega) (by omega)) c_9)
      refine lv_iload_n hx hb dX1_creakAll_40 rfl (lv_at hl 1 rfl) ?_
      exact eI S hr hlocks hP hS dX1_creakAll_41 (by first | exact ⟨rfl, rfl⟩ | (refine ⟨?_, rfl⟩; simp [c_9]; done) | (simp [c_9]; done) | (simp only [c_9, ↓reduceIte, if_true, if_false, and_self, true_and]; done) | grind [])
    | succ d ih =>
      intro k hk  H locs ls hP hS hl
      have hkn : k < mb := by omega
      refine lv_iload_n hx hb dX1_creakAll_4 rfl (lv_at hl 0 rfl) ?_
      refine lv_aload_n hx hb dX1_creakAll_5 rfl (lv_at hl 2 rfl) ?_
      refine gf S G hP bb 4 (isBl0 hbb) (oB hbb) rfl inX1 (by decide) fl_RX1_28 rfl rfl dX1_creakAll_6 ?_
      refine lv_icmp_ge (tgt := 40) hx hb dX1_creakAll_9 (by decide) (fun c_9 => absurd c_9 (by rw [(show crk σ bb pb k bb 4 = nI mb from (hBk k).1)]; exact nI_ge (by omega) (by omega))) (fun c_9 => ?_)
      refine lv_aload_n hx hb dX1_creakAll_12 rfl (lv_at hl 2 rfl) ?_
      refine lv_iload_n hx hb dX1_creakAll_13 rfl (lv_at hl 0 rfl) ?_
      refine lv_aload_n hx hb dX1_creakAll_14 rfl (lv_at hl 3 rfl) ?_
      refine cVie (As := [.int (nI k), .ref (ad pb)]) S G bb (c_X1_isOverstrained l (D := D) (ct := ct) (ek := ek) (ad := ad) (N0 := N0) (X := X) (F := F) (crk σ bb pb k) bb hbb k pb hpb mb (hBk k) (by omega)) ok_yX1_isOverstrained ml_RX1_50 (isBl0 hbb) (oB hbb) rfl hP hS hl.1 rfl (by decide) rfl rfl (Nat.le_of_ble_eq_true rfl) ⟨Nat.zero_le _, Nat.zero_le _⟩ dX1_creakAll_15 (fun H locs hP hS => ?_)
      refine lv_tope (y := overB σ bb pb k) (overB_c ha) ?_
      refine lv_if_eq (tgt := 34) hx hb dX1_creakAll_18 (by decide) (fun c_18 => ?_) (fun c_18 => ?_)
      · refine lv_iinc (v := nI (k + 1)) (lv' := [(3, .int (nI (k + 1))), (2, .int (cntB (overB σ bb pb) k)), (0, .ref (ad bb)), (1, .ref (ad pb))]) hx hb dX1_creakAll_34 hl (k := 0) rfl (nI_inc _) (by decide) rfl (fun ls hl => ?_)
        refine lv_goto (tgt := 4) hx hb dX1_creakAll_37 (by decide) ?_
        exact ih (k + 1) (by omega)  _ _ _ (wP_e hP (by funext c j; grind [crk_ap, sg_at])) hS (by first | (refine lv_v (lv_sub (l' := [(3, .int (nI (k + 1))), (2, .int (cntB (overB σ bb pb) k)), (0, .ref (ad bb)), (1, .ref (ad pb))]) hl [0, 1, 2, 3] rfl) ?_; simp [fo, cntB, c_9, c_18]; done) | exact lv_sub hl [0, 1, 2, 3] rfl)
      · refine lv_aload_n hx hb dX1_creakAll_21 rfl (lv_at hl 2 rfl) ?_
        refine gf S G hP bb 3 (isBl0 hbb) (oB hbb) rfl inX1 (by decide) fl_RX1_19 rfl rfl dX1_creakAll_22 ?_
        refine lv_iload_n hx hb dX1_creakAll_25 rfl (lv_at hl 0 rfl) ?_
        refine lv_dup2_11 hx hb dX1_creakAll_26 rfl rfl ?_
        refine ald S G hP (bb + 4) k (isBl hbb (by decide)) ((aB4 hbb) _) rfl (by omega) (by decide) dX1_creakAll_27 ?_
        refine lv_tope (y := σ (bb + 4) k) (by grind [crk_ap]) ?_
        refine lv_iconst (v := 1) hx hb dX1_creakAll_28 (by decide) ?_
        refine lv_iadd hx hb dX1_creakAll_29 ?_
        refine ast S G hP hS (bb + 4) k (isBl hbb (by decide)) (aB4 hbb) rfl (by omega) (by decide) dX1_creakAll_30 (fun H locs hP hS => ?_)
        refine lv_iinc (v := (cntB (overB σ bb pb) k) + 1) (lv' := [(2, .int ((cntB (overB σ bb pb) k) + 1)), (3, .int (nI k)), (0, .ref (ad bb)), (1, .ref (ad pb))]) hx hb dX1_creakAll_31 hl (k := 1) rfl rfl (by decide) rfl (fun ls hl => ?_)
        refine lv_iinc (v := nI (k + 1)) (lv' := [(3, .int (nI (k + 1))), (2, .int ((cntB (overB σ bb pb) k) + 1)), (0, .ref (ad bb)), (1, .ref (ad pb))]) hx hb dX1_creakAll_34 hl (k := 1) rfl (nI_inc _) (by decide) rfl (fun ls hl => ?_)
        refine lv_goto (tgt := 4) hx hb dX1_creakAll_37 (by decide) ?_
        exact ih (k + 1) (by omega)  _ _ _ (wP_e hP (by funext c j; grind [crk_ap, sg_at])) hS (by first | (refine lv_v (lv_sub (l' := [(3, .int (nI (k + 1))), (2, .int ((cntB (overB σ bb pb) k) + 1)), (0, .ref (ad bb)), (1, .ref (ad pb))]) hl [0, 1, 2, 3] rfl) ?_; simp [fo, cntB, c_9, c_18]; done) | exact lv_sub hl [0, 1, 2, 3] rfl)
  exact key_4 mb 0 (by omega)  _ _ _ (wP_e hP (by funext c j; grind [crk_ap])) hS (lv_sub hl [0, 1, 2, 3] rfl)

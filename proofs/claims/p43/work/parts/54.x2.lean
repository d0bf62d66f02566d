/-! the class's calls that look ahead (laid by wip/p43/spec_x2.py) -/

theorem ok_yX10_tiltIn : COK RX10 yX10_tiltIn cX10_tiltIn 4 (some .int) 2 := ⟨im_yX10_tiltIn, se_RX10_yX10_tiltIn, in_RX10, co_yX10_tiltIn, ⟨rfl, by decide +kernel, by decide +kernel, by decide +kernel⟩, by decide⟩
set_option maxHeartbeats 1000000 in
set_option maxRecDepth 100000 in
theorem c_X10_tiltIn (l : Launch) {D : va_G} {ct : Nat → ClassId} {ek ad : Nat → Nat} {N0 : Nat} {X : va_W} {F : State → Prop} (σ : Mem) (x : Int32) (y : Int32) (n : Nat) (mb : Nat) (hO : HOK σ 1 n mb) (h : Nat → Int32) (hR : RowOK h n mb) (hs : SB h) (hp : PRel σ (1 + 1) h) (cs : Nat → Nat) (hF : ∀ U, F U → FX ek cs N0 U) (hY : ∀ U, F U → FY U) (hlt : l.stackTraces = false) : MXi l yX10_tiltIn cX10_tiltIn 4 (some .int) 7 2 D ct ek ad N0 X F [.ref (ad 0), .int x, .int y] σ (fun r τ => FcP τ σ ∧ tinXT σ x y = 0 ∧ r = (goK h n mb (tN y)).1 (6 + 5 * tN x + 0)) (PXd ["java/lang/IndexOutOfBoundsException", "java/lang/IllegalArgumentException"] (tinXT σ x y) (fun τ => τ = σ)) := by
  refine ms0x (own := RX10) (by decide) rfl (Nat.le_of_ble_eq_true rfl) (fun p e s m args below meth c S hr hlocks hout G hP hS ls hl => ?_)
  have hx := S.1
  have hb := S.2.1
  replace hl : lv_has ls 4 [(0, .ref (ad 0)), (1, .int x), (2, .int y)] := hl
  have FC := hF s G.2.2.2.2.2
  have FZ := hY s G.2.2.2.2.2
  have hn := hO.1
  have hn6 := hO.2.1
  have hB0 := hO.2.2.1
  have hm := hB0.1
  have hm6 := hB0.2.1
  refine lv_aload_n hx hb dX10_tiltIn_0 rfl (lv_at hl 0 rfl) ?_
  refine lv_iload_n hx hb dX10_tiltIn_1 rfl (lv_at hl 1 rfl) ?_
  refine cXv (As := [.int x]) S G 0 (c_X10_needPerson l (D := D) (ct := ct) (ek := ek) (ad := ad) (N0 := N0) (X := X) (F := F) σ x cs (by first | assumption | omega | (simp [sg_at]; assumption) | (simp [sg_at]; done)) (by first | assumption | omega | (simp [sg_at]; assumption) | (simp [sg_at]; done)) (by first | assumption | omega | (simp [sg_at]; assumption) | (simp [sg_at]; done))) ok_yX10_needPerson ml_RX10_103 (by decide) oX rfl hP hS hl.1 rfl (by decide) rfl rfl (Nat.le_of_ble_eq_true rfl) ⟨by decide, by decide⟩ hout hlocks dX10_tiltIn_2 (fun E τ h => PXu (P := fun τ => τ = σ) h (fun z => by unfold tinXT; rw [if_pos (np_1 z)]) (fun w => w)) (fun τ_2 H locs hp_r_1 hP hS => ?_)
  obtain ⟨e9, hB9⟩ := hp_r_1
  rw [e9] at hP
  refine lv_iload_n hx hb dX10_tiltIn_5 rfl (lv_at hl 2 rfl) ?_
  refine lv_if_lt (tgt := 15) hx hb dX10_tiltIn_6 (by decide) (fun c_6 => ?_) (fun c_6 => ?_)
  · exact thS (names := ["java/lang/RuntimeException", "java/lang/Exception"]) S G FC FZ hlt (List.mem_of_getElem? (i := 8) rfl) th_137_141 hP hS hl.1 hout hlocks rfl ⟨rfl, by decide⟩ (Nat.le_of_ble_eq_true rfl) ⟨by decide, by decide⟩ (PX2 rfl (by unfold tinXT; rw [if_neg hB9, if_pos c_6])) dX10_tiltIn_15 dX10_tiltIn_18 dX10_tiltIn_19 dX10_tiltIn_21 dX10_tiltIn_24
  · refine lv_iload_n hx hb dX10_tiltIn_9 rfl (lv_at hl 2 rfl) ?_
    refine lv_bipush (v := 30) hx hb dX10_tiltIn_10 (by decide) ?_
    refine lv_icmp_le (tgt := 25) hx hb dX10_tiltIn_12 (by decide) (fun c_12 => ?_) (fun c_12 => ?_)
    · obtain ⟨h1, h1l⟩ := holdN hB9 hn (by omega)
      obtain ⟨h2, h2l⟩ := rngL (x := y) (hi := 30) (n := 30) (by unfold rngB; rw [if_neg c_6, if_neg (Int32.not_lt.mpr c_12)]; decide) rfl (by decide)
      refine lv_aload_n hx hb dX10_tiltIn_25 rfl (lv_at hl 0 rfl) ?_
      refine gf S G hP 0 3 (by decide) oX rfl inX10 (by decide) fl_RX10_25 rfl rfl dX10_tiltIn_26 ?_
      refine lv_aload_n hx hb dX10_tiltIn_29 rfl (lv_at hl 0 rfl) ?_
      refine gf S G hP 0 0 (by decide) oX rfl inX10 (by decide) fl_RX10_10 rfl rfl dX10_tiltIn_30 ?_
      refine gfN S G hP 1 0 (isHl0 isH1) (oH isH1) rfl inX5 (by decide) nw_RX10_107 rfl rfl dX10_tiltIn_33 ?_
      refine cVv (As := [.ref (ad (1 + 1))]) S G 61 (c_X8_copyFrom l (D := D) (ct := ct) (ek := ek) (ad := ad) (N0 := N0) (X := X) (F := F) σ 61 isP61 (1 + 1) (isPH isH1) (by omega) hO.2.2.2) ok_yX8_copyFrom ml_RX10_211 (isPl0 isP61) (oP isP61) rfl hP hS hl.1 rfl (by decide) rfl rfl (Nat.le_of_ble_eq_true rfl) ⟨by decide, by decide⟩ dX10_tiltIn_36 (fun τ_4 H locs hp_r_3 hP hS => ?_)
      have hf0 : FcR τ_4 σ (goK h n mb 0).1 := FcR_0 hp hp_r_3
      refine lv_iconst (v := 0) hx hb dX10_tiltIn_39 (by decide) ?_
      refine lv_istore_n (lv' := [(3, .int 0), (0, .ref (ad 0)), (1, .int x), (2, .int y)]) hx hb dX10_tiltIn_40 rfl hl (by decide) rfl (fun ls hl => ?_)
      have key_41 : ∀ (d k : Nat), k + d = tN y → ∀ (τ : Mem), (FcR τ σ (goK h n mb k).1) → ∀ (H : Heap) (locs : List Loc) (ls : Array Slot), wP D ct ek ad X τ H → va_S (fr N0) s.heap H locs → lv_has ls 4 [(3, .int (nI k)), (0, .ref (ad 0)), (1, .int x), (2, .int y)] → W p l e (rmd 7 2 (6 * 2)) s m args below meth c H locs (0 + 1) (0 + 6 * 1) (vx_MQ below (wQi D ct ek ad N0 X (fun r τ => FcP τ σ ∧ tinXT σ x y = 0 ∧ r = (goK h n mb (tN y)).1 (6 + 5 * tN x + 0))) (XCm D ct ek ad N0 X (PXd ["java/lang/IndexOutOfBoundsException", "java/lang/IllegalArgumentException"] (tinXT σ x y) (fun τ => τ = σ))) args s 2 (6 * 2) (fr N0)) (F0 m 41 ls []) := by
        intro d
        induction d with
        | zero =>
          intro k9 hk
          obtain rfl : tN y = k9 := by omega
          intro τ hτ H locs ls hP hS hl
          refine lv_iload_n hx hb dX10_tiltIn_41 rfl (lv_at hl 0 rfl) ?_
          refine lv_iload_n hx hb dX10_tiltIn_42 rfl (lv_at hl 3 rfl) ?_
          refine lv_tope (y := nI (tN (y))) h2 ?_
          refine lv_icmp_ge (tgt := 60) hx hb dX10_tiltIn_43 (by decide) (fun c_43 => ?_) (fun c_43 => absurd (nI_le (by omega) (by omega)) c_43)
          refine lv_aload_n hx hb dX10_tiltIn_60 rfl (lv_at hl 1 rfl) ?_
          refine gf S G hP 0 3 (by decide) oX rfl inX10 (by decide) fl_RX10_25 rfl rfl dX10_tiltIn_61 ?_
          refine gfN S G hP 61 0 (isPl0 isP61) (oP isP61) rfl inX8 (by decide) nw_RX10_110 rfl rfl dX10_tiltIn_64 ?_
          refine lv_iload_n hx hb dX10_tiltIn_67 rfl (lv_at hl 2 rfl) ?_
          refine lv_tope (y := nI (tN (x))) h1 ?_
          refine ald S G hP (61 + 1) (tN (x)) (isPl isP61 (by decide)) ((aP1 isP61) _) rfl (by omega) (by decide) dX10_tiltIn_68 ?_
          exact eIx S hr hlocks hP hS ⟨by decide, by decide⟩ dX10_tiltIn_69 ⟨hτ.1, (by unfold tinXT; rw [if_neg hB9, if_neg c_6, if_pos c_12]), (hτ.2.2 _ (by omega)).1⟩
        | succ d ih =>
          intro k hk τ hτ H locs ls hP hS hl
          have hkn : k < tN y := by omega
          refine lv_iload_n hx hb dX10_tiltIn_41 rfl (lv_at hl 0 rfl) ?_
          refine lv_iload_n hx hb dX10_tiltIn_42 rfl (lv_at hl 3 rfl) ?_
          refine lv_tope (y := nI (tN (y))) h2 ?_
          refine lv_icmp_ge (tgt := 60) hx hb dX10_tiltIn_43 (by decide) (fun c_43 => absurd c_43 (nI_ge (by omega) (by omega))) (fun c_43 => ?_)
          refine lv_aload_n hx hb dX10_tiltIn_46 rfl (lv_at hl 1 rfl) ?_
          refine gf S G hP 0 3 (by decide) oX rfl inX10 (by decide) fl_RX10_25 rfl rfl dX10_tiltIn_47 ?_
          refine cVie (As := []) S G 61 (c_X8_passRound l (D := D) (ct := ct) (ek := ek) (ad := ad) (N0 := N0) (X := X) (F := F) τ 61 isP61 n (hτ.2.1.trans (goK_ok hR k).1) (by omega)) ok_yX8_passRound ml_RX10_215 (isPl0 isP61) (oP isP61) rfl hP hS hl.1 rfl (by decide) rfl rfl (Nat.le_of_ble_eq_true rfl) ⟨by decide, by decide⟩ dX10_tiltIn_50 (fun H locs hP hS => ?_)
          refine lv_pop hx hb dX10_tiltIn_53 rfl ?_
          refine lv_iinc (v := nI (k + 1)) (lv' := [(3, .int (nI (k + 1))), (0, .ref (ad 0)), (1, .int x), (2, .int y)]) hx hb dX10_tiltIn_54 hl (k := 0) rfl (nI_inc _) (by decide) rfl (fun ls hl => ?_)
          refine lv_goto (tgt := 41) hx hb dX10_tiltIn_57 (by decide) ?_
          exact ih (k + 1) (by omega) _ (FcR_s hR hs hτ) _ _ _ hP hS (by first | (refine lv_v (lv_sub (l' := [(3, .int (nI (k + 1))), (0, .ref (ad 0)), (1, .int x), (2, .int y)]) hl [0, 1, 2, 3] rfl) ?_; simp [fo, c_6, c_12, c_43]; done) | exact lv_sub hl [0, 1, 2, 3] rfl)
      exact key_41 (tN y) 0 (by omega) _ hf0 _ _ _ hP hS (lv_sub hl [0, 1, 2, 3] rfl)
    · exact thS (names := ["java/lang/RuntimeException", "java/lang/Exception"]) S G FC FZ hlt (List.mem_of_getElem? (i := 8) rfl) th_137_141 hP hS hl.1 hout hlocks rfl ⟨rfl, by decide⟩ (Nat.le_of_ble_eq_true rfl) ⟨by decide, by decide⟩ (PX2 rfl (by unfold tinXT; rw [if_neg hB9, if_neg c_6, if_neg c_12])) dX10_tiltIn_15 dX10_tiltIn_18 dX10_tiltIn_19 dX10_tiltIn_21 dX10_tiltIn_24

theorem ok_yX10_restsIn : COK RX10 yX10_restsIn cX10_restsIn 2 (some .int) 0 := ⟨im_yX10_restsIn, se_RX10_yX10_restsIn, in_RX10, co_yX10_restsIn, ⟨rfl, by decide +kernel, by decide +kernel, by decide +kernel⟩, by decide⟩
set_option maxHeartbeats 1000000 in
set_option maxRecDepth 100000 in
theorem c_X10_restsIn (l : Launch) {D : va_G} {ct : Nat → ClassId} {ek ad : Nat → Nat} {N0 : Nat} {X : va_W} {F : State → Prop} (σ : Mem) (n : Nat) (mb : Nat) (hO : HOK σ 1 n mb) (h : Nat → Int32) (hR : RowOK h n mb) (hs : SB h) (hp : PRel σ (1 + 1) h) (cs : Nat → Nat) (hF : ∀ U, F U → FX ek cs N0 U) (hY : ∀ U, F U → FY U) (hlt : l.stackTraces = false) : MXi l yX10_restsIn cX10_restsIn 2 (some .int) 6 1 D ct ek ad N0 X F [.ref (ad 0)] σ (fun r τ => FcP τ σ ∧ rstXT h n mb = 0 ∧ r = nI (rsR h n mb 100 0)) (PXd ["java/util/NoSuchElementException"] (rstXT h n mb) (fun τ => FcP τ σ)) := by
  refine ms0x (own := RX10) (by decide) rfl (Nat.le_of_ble_eq_true rfl) (fun p e s m args below meth c S hr hlocks hout G hP hS ls hl => ?_)
  have hx := S.1
  have hb := S.2.1
  replace hl : lv_has ls 2 [(0, .ref (ad 0))] := hl
  have FC := hF s G.2.2.2.2.2
  have FZ := hY s G.2.2.2.2.2
  have hn := hO.1
  have hn6 := hO.2.1
  have hB0 := hO.2.2.1
  have hm := hB0.1
  have hm6 := hB0.2.1
  refine lv_aload_n hx hb dX10_restsIn_0 rfl (lv_at hl 0 rfl) ?_
  refine gf S G hP 0 0 (by decide) oX rfl inX10 (by decide) fl_RX10_10 rfl rfl dX10_restsIn_1 ?_
  refine gfN S G hP 1 0 (isHl0 isH1) (oH isH1) rfl inX5 (by decide) nw_RX10_107 rfl rfl dX10_restsIn_4 ?_
  refine gfN S G hP (1 + 1) 7 (isPl0 (isPH isH1)) (oP (isPH isH1)) rfl inX8 (by decide) nw_RX10_218 rfl rfl dX10_restsIn_7 ?_
  refine lv_if_ne (tgt := 23) hx hb dX10_restsIn_10 (by decide) (fun c_10 => ?_) (fun c_10 => ?_)
  · have h0 : ¬ n = 0 := fun z => c_10 (by rw [hn, z]; exact nI_0)
    refine lv_aload_n hx hb dX10_restsIn_23 rfl (lv_at hl 0 rfl) ?_
    refine gf S G hP 0 3 (by decide) oX rfl inX10 (by decide) fl_RX10_25 rfl rfl dX10_restsIn_24 ?_
    refine lv_aload_n hx hb dX10_restsIn_27 rfl (lv_at hl 0 rfl) ?_
    refine gf S G hP 0 0 (by decide) oX rfl inX10 (by decide) fl_RX10_10 rfl rfl dX10_restsIn_28 ?_
    refine gfN S G hP 1 0 (isHl0 isH1) (oH isH1) rfl inX5 (by decide) nw_RX10_107 rfl rfl dX10_restsIn_31 ?_
    refine cVv (As := [.ref (ad (1 + 1))]) S G 61 (c_X8_copyFrom l (D := D) (ct := ct) (ek := ek) (ad := ad) (N0 := N0) (X := X) (F := F) σ 61 isP61 (1 + 1) (isPH isH1) (by omega) hO.2.2.2) ok_yX8_copyFrom ml_RX10_211 (isPl0 isP61) (oP isP61) rfl hP hS hl.1 rfl (by decide) rfl rfl (Nat.le_of_ble_eq_true rfl) ⟨by decide, by decide⟩ dX10_restsIn_34 (fun τ_2 H locs hp_r_1 hP hS => ?_)
    have hf0 : FcR τ_2 σ (goK h n mb 0).1 := FcR_0 hp hp_r_1
    refine lv_iconst (v := 0) hx hb dX10_restsIn_37 (by decide) ?_
    refine lv_istore_n (lv' := [(1, .int 0), (0, .ref (ad 0))]) hx hb dX10_restsIn_38 rfl hl (by decide) rfl (fun ls hl => ?_)
    have key_39 : ∀ (d k : Nat), k + d = 100 → (rsR h n mb d k = rsR h n mb 100 0) → ∀ (τ : Mem), (FcR τ σ (goK h n mb k).1) → ∀ (H : Heap) (locs : List Loc) (ls : Array Slot), wP D ct ek ad X τ H → va_S (fr N0) s.heap H locs → lv_has ls 2 [(1, .int (nI k)), (0, .ref (ad 0))] → W p l e (rmd 6 1 (6 * 1)) s m args below meth c H locs 0 0 (vx_MQ below (wQi D ct ek ad N0 X (fun r τ => FcP τ σ ∧ rstXT h n mb = 0 ∧ r = nI (rsR h n mb 100 0))) (XCm D ct ek ad N0 X (PXd ["java/util/NoSuchElementException"] (rstXT h n mb) (fun τ => FcP τ σ))) args s 1 (6 * 1) (fr N0)) (F0 m 39 ls []) := by
      intro d
      induction d with
      | zero =>
        intro k9 hk
        obtain rfl : 100 = k9 := by omega
        intro hrs τ hτ H locs ls hP hS hl
        refine lv_iload_n hx hb dX10_restsIn_39 rfl (lv_at hl 0 rfl) ?_
        refine lv_bipush (v := 99) hx hb dX10_restsIn_40 (by decide) ?_
        refine lv_icmp_gt (tgt := 63) hx hb dX10_restsIn_42 (by decide) (fun c_42 => ?_) (fun c_42 => absurd (by decide) c_42)
        exact tnS S G FC FZ hlt (List.mem_of_getElem? (i := 10) rfl) tn_190_194 hP hS hl.1 hout hlocks rfl (by decide) (Nat.le_of_ble_eq_true rfl) ⟨by decide, by decide⟩ (PX1 hτ.1 (by unfold rstXT; rw [if_neg h0, if_pos (by rw [show rsR h n mb 100 0 = 100 from hrs.symm]; decide)])) dX10_restsIn_63 dX10_restsIn_66 dX10_restsIn_67 dX10_restsIn_69 dX10_restsIn_72
      | succ d ih =>
        intro k hk hrs τ hτ H locs ls hP hS hl
        have hkn : k < 100 := by omega
        refine lv_iload_n hx hb dX10_restsIn_39 rfl (lv_at hl 0 rfl) ?_
        refine lv_bipush (v := 99) hx hb dX10_restsIn_40 (by decide) ?_
        refine lv_icmp_gt (tgt := 63) hx hb dX10_restsIn_42 (by decide) (fun c_42 => absurd c_42 (nI_nlt (a := 99) (by omega) (by omega))) (fun c_42 => ?_)
        refine lv_aload_n hx hb dX10_restsIn_45 rfl (lv_at hl 1 rfl) ?_
        refine gf S G hP 0 3 (by decide) oX rfl inX10 (by decide) fl_RX10_25 rfl rfl dX10_restsIn_46 ?_
        refine cVie (As := []) S G 61 (c_X8_passRound l (D := D) (ct := ct) (ek := ek) (ad := ad) (N0 := N0) (X := X) (F := F) τ 61 isP61 n (hτ.2.1.trans (goK_ok hR k).1) (by omega)) ok_yX8_passRound ml_RX10_215 (isPl0 isP61) (oP isP61) rfl hP hS hl.1 rfl (by decide) rfl rfl (Nat.le_of_ble_eq_true rfl) ⟨by decide, by decide⟩ dX10_restsIn_49 (fun H locs hP hS => ?_)
        refine lv_tope (y := gmV (goK h n mb k).1 n n) (pr_moved hτ.2 (goK_ok hR k) (goK_SB hR hs k)) ?_
        refine lv_if_ne (tgt := 57) hx hb dX10_restsIn_52 (by decide) (fun c_52 => ?_) (fun c_52 => ?_)
        · refine lv_iinc (v := nI (k + 1)) (lv' := [(1, .int (nI (k + 1))), (0, .ref (ad 0))]) hx hb dX10_restsIn_57 hl (k := 0) rfl (nI_inc _) (by decide) rfl (fun ls hl => ?_)
          refine lv_goto (tgt := 39) hx hb dX10_restsIn_60 (by decide) ?_
          exact ih (k + 1) (by omega) (by rw [← hrs]; exact (if_neg (fun z => c_52 ((gmV_0 hn6).mp z))).symm) _ (FcR_s hR hs hτ) _ _ _ hP hS (by first | (refine lv_v (lv_sub (l' := [(1, .int (nI (k + 1))), (0, .ref (ad 0))]) hl [0, 1] rfl) ?_; simp [fo, c_10, h0, c_42, c_52]; done) | exact lv_sub hl [0, 1] rfl)
        · have hv : rsR h n mb 100 0 = k := by rw [← hrs]; exact if_pos (by rw [c_52]; decide)
          refine lv_iload_n hx hb dX10_restsIn_55 rfl (lv_at hl 0 rfl) ?_
          exact eIx S hr hlocks hP hS ⟨by decide, by decide⟩ dX10_restsIn_56 ⟨(FcR_s hR hs hτ).1, (by unfold rstXT; rw [if_neg h0, hv, if_neg (by omega)]), (by rw [hv])⟩
    exact key_39 100 0 (by omega) rfl _ hf0 _ _ _ hP hS (lv_sub hl [0, 1] rfl)
  · have h0 : n = 0 := by rw [hn] at c_10; exact (nI_eq (by omega) (by omega)).mp c_10
    exact tnS S G FC FZ hlt (List.mem_of_getElem? (i := 9) rfl) tn_190_194 hP hS hl.1 hout hlocks rfl (by decide) (Nat.le_of_ble_eq_true rfl) ⟨by decide, by decide⟩ (PX1 (fun c _ => rfl) (by unfold rstXT; rw [if_pos h0])) dX10_restsIn_13 dX10_restsIn_16 dX10_restsIn_17 dX10_restsIn_19 dX10_restsIn_22

theorem ok_yX10_breaksIn : COK RX10 yX10_breaksIn cX10_breaksIn 5 (some .int) 1 := ⟨im_yX10_breaksIn, se_RX10_yX10_breaksIn, in_RX10, co_yX10_breaksIn, ⟨rfl, by decide +kernel, by decide +kernel, by decide +kernel⟩, by decide⟩
set_option maxHeartbeats 1000000 in
set_option maxRecDepth 100000 in
theorem c_X10_breaksIn (l : Launch) {D : va_G} {ct : Nat → ClassId} {ek ad : Nat → Nat} {N0 : Nat} {X : va_W} {F : State → Prop} (σ : Mem) (x : Int32) (n : Nat) (mb : Nat) (hO : HOK σ 1 n mb) (h : Nat → Int32) (hR : RowOK h n mb) (hs : SB h) (hp : PRel σ (1 + 1) h) (hbr : BRel σ (1 + 15) h) (cs : Nat → Nat) (hF : ∀ U, F U → FX ek cs N0 U) (hY : ∀ U, F U → FY U) (hlt : l.stackTraces = false) : MXi l yX10_breaksIn cX10_breaksIn 5 (some .int) 7 2 D ct ek ad N0 X F [.ref (ad 0), .int x] σ (fun r τ => FcP τ σ ∧ briXT σ h n mb x = 0 ∧ r = nI (briXN h n mb x)) (PXd ["java/lang/IndexOutOfBoundsException", "java/util/NoSuchElementException"] (briXT σ h n mb x) (fun τ => FcP τ σ)) := by
  refine ms0x (own := RX10) (by decide) rfl (Nat.le_of_ble_eq_true rfl) (fun p e s m args below meth c S hr hlocks hout G hP hS ls hl => ?_)
  have hx := S.1
  have hb := S.2.1
  replace hl : lv_has ls 5 [(0, .ref (ad 0)), (1, .int x)] := hl
  have FC := hF s G.2.2.2.2.2
  have FZ := hY s G.2.2.2.2.2
  have hn := hO.1
  have hn6 := hO.2.1
  have hB0 := hO.2.2.1
  have hm := hB0.1
  have hm6 := hB0.2.1
  refine lv_aload_n hx hb dX10_breaksIn_0 rfl (lv_at hl 0 rfl) ?_
  refine lv_iload_n hx hb dX10_breaksIn_1 rfl (lv_at hl 1 rfl) ?_
  refine cXv (As := [.int x]) S G 0 (c_X10_needBeam l (D := D) (ct := ct) (ek := ek) (ad := ad) (N0 := N0) (X := X) (F := F) σ x cs (by first | assumption | omega | (simp [sg_at]; assumption) | (simp [sg_at]; done)) (by first | assumption | omega | (simp [sg_at]; assumption) | (simp [sg_at]; done)) (by first | assumption | omega | (simp [sg_at]; assumption) | (simp [sg_at]; done))) ok_yX10_needBeam ml_RX10_148 (by decide) oX rfl hP hS hl.1 rfl (by decide) rfl rfl (Nat.le_of_ble_eq_true rfl) ⟨by decide, by decide⟩ hout hlocks dX10_breaksIn_2 (fun E τ h9 => PXu (P := fun τ => τ = σ) h9 (fun z => by unfold briXT; rw [if_pos (nb_1 z)]) (fun w => by rw [w]; exact fun c _ => rfl)) (fun τ_2 H locs hp_r_1 hP hS => ?_)
  obtain ⟨e9, hB9⟩ := hp_r_1
  rw [e9] at hP
  obtain ⟨h1, h1l⟩ := holdN hB9 hm (by omega)
  refine lv_aload_n hx hb dX10_breaksIn_5 rfl (lv_at hl 0 rfl) ?_
  refine gf S G hP 0 0 (by decide) oX rfl inX10 (by decide) fl_RX10_10 rfl rfl dX10_breaksIn_6 ?_
  refine gfN S G hP 1 1 (isHl0 isH1) (oH isH1) rfl inX5 (by decide) nw_RX10_151 rfl rfl dX10_breaksIn_9 ?_
  refine lv_astore_n (lv' := [(2, .ref (ad (1 + 15))), (0, .ref (ad 0)), (1, .int x)]) hx hb dX10_breaksIn_12 rfl hl (by decide) rfl (fun ls hl => ?_)
  refine lv_aload_n hx hb dX10_breaksIn_13 rfl (lv_at hl 0 rfl) ?_
  refine gfN S G hP (1 + 15) 3 (isBl0 (isBH isH1)) (oB (isBH isH1)) rfl inX1 (by decide) nw_RX10_166 rfl rfl dX10_breaksIn_14 ?_
  refine lv_iload_n hx hb dX10_breaksIn_17 rfl (lv_at hl 2 rfl) ?_
  refine lv_tope (y := nI (tN (x))) h1 ?_
  refine ald S G hP ((1 + 15) + 4) (tN (x)) (isBl (isBH isH1) (by decide)) ((aB4 (isBH isH1)) _) rfl (by omega) (by decide) dX10_breaksIn_18 ?_
  refine lv_tope (y := ckK h n mb (tN x) 0) (hbr.2 _ (by rw [hR.rw.2.2]; exact h1l) 3 (by omega)) ?_
  refine lv_istore_n (lv' := [(3, .int (ckK h n mb (tN x) 0)), (2, .ref (ad (1 + 15))), (0, .ref (ad 0)), (1, .int x)]) hx hb dX10_breaksIn_19 rfl hl (by decide) rfl (fun ls hl => ?_)
  refine lv_aload_n hx hb dX10_breaksIn_20 rfl (lv_at hl 2 rfl) ?_
  refine gf S G hP 0 3 (by decide) oX rfl inX10 (by decide) fl_RX10_25 rfl rfl dX10_breaksIn_21 ?_
  refine lv_aload_n hx hb dX10_breaksIn_24 rfl (lv_at hl 2 rfl) ?_
  refine gf S G hP 0 0 (by decide) oX rfl inX10 (by decide) fl_RX10_10 rfl rfl dX10_breaksIn_25 ?_
  refine gfN S G hP 1 0 (isHl0 isH1) (oH isH1) rfl inX5 (by decide) nw_RX10_107 rfl rfl dX10_breaksIn_28 ?_
  refine cVv (As := [.ref (ad (1 + 1))]) S G 61 (c_X8_copyFrom l (D := D) (ct := ct) (ek := ek) (ad := ad) (N0 := N0) (X := X) (F := F) σ 61 isP61 (1 + 1) (isPH isH1) (by omega) hO.2.2.2) ok_yX8_copyFrom ml_RX10_211 (isPl0 isP61) (oP isP61) rfl hP hS hl.1 rfl (by decide) rfl rfl (Nat.le_of_ble_eq_true rfl) ⟨by decide, by decide⟩ dX10_breaksIn_31 (fun τ_4 H locs hp_r_3 hP hS => ?_)
  have hf0 : FcR τ_4 σ (goK h n mb 0).1 := FcR_0 hp hp_r_3
  have e3 : σ (1 + 15 + 4) (tN x) = ckK h n mb (tN x) 0 := (hbr.2 _ (by rw [hR.rw.2.2]; exact h1l) 3 (by omega))
  refine lv_iconst (v := 1) hx hb dX10_breaksIn_34 (by decide) ?_
  refine lv_istore (lv' := [(4, .int 1), (3, .int (ckK h n mb (tN x) 0)), (2, .ref (ad (1 + 15))), (0, .ref (ad 0)), (1, .int x)]) hx hb dX10_breaksIn_35 hl (by decide) rfl (fun ls hl => ?_)
  have key_37 : ∀ (d k : Nat), k + d = 99 → (bkS h n mb (tN x) d k = bkS h n mb (tN x) 99 0) → ∀ (τ : Mem), (FcR τ σ (goK h n mb k).1) → ∀ (H : Heap) (locs : List Loc) (ls : Array Slot), wP D ct ek ad X τ H → va_S (fr N0) s.heap H locs → lv_has ls 5 [(4, .int (nI (k + 1))), (3, .int (ckK h n mb (tN x) k)), (2, .ref (ad (1 + 15))), (0, .ref (ad 0)), (1, .int x)] → W p l e (rmd 7 2 (6 * 2)) s m args below meth c H locs (0 + 1) (0 + 6 * 1) (vx_MQ below (wQi D ct ek ad N0 X (fun r τ => FcP τ σ ∧ briXT σ h n mb x = 0 ∧ r = nI (briXN h n mb x))) (XCm D ct ek ad N0 X (PXd ["java/lang/IndexOutOfBoundsException", "java/util/NoSuchElementException"] (briXT σ h n mb x) (fun τ => FcP τ σ))) args s 2 (6 * 2) (fr N0)) (F0 m 37 ls []) := by
    intro d
    induction d with
    | zero =>
      intro k9 hk
      obtain rfl : 99 = k9 := by omega
      intro hbk τ hτ H locs ls hP hS hl
      refine lv_iload hx hb dX10_breaksIn_37 (lv_at hl 0 rfl) ?_
      refine lv_bipush (v := 99) hx hb dX10_breaksIn_39 (by decide) ?_
      refine lv_icmp_gt (tgt := 81) hx hb dX10_breaksIn_41 (by decide) (fun c_41 => ?_) (fun c_41 => absurd (by decide) c_41)
      exact tnS S G FC FZ hlt (List.mem_of_getElem? (i := 11) rfl) tn_190_194 hP hS hl.1 hout hlocks rfl (by decide) (Nat.le_of_ble_eq_true rfl) ⟨by decide, by decide⟩ (PX2 hτ.1 (by unfold briXT; rw [if_neg hB9, if_pos (show briXN h n mb x = 0 from hbk.symm)])) dX10_breaksIn_81 dX10_breaksIn_84 dX10_breaksIn_85 dX10_breaksIn_87 dX10_breaksIn_90
    | succ d ih =>
      intro k hk hbk τ hτ H locs ls hP hS hl
      have hkn : k < 99 := by omega
      refine lv_iload hx hb dX10_breaksIn_37 (lv_at hl 0 rfl) ?_
      refine lv_bipush (v := 99) hx hb dX10_breaksIn_39 (by decide) ?_
      refine lv_icmp_gt (tgt := 81) hx hb dX10_breaksIn_41 (by decide) (fun c_41 => absurd c_41 (nI_nlt (a := 99) (by omega) (by omega))) (fun c_41 => ?_)
      refine lv_aload_n hx hb dX10_breaksIn_44 rfl (lv_at hl 3 rfl) ?_
      refine gf S G hP 0 3 (by decide) oX rfl inX10 (by decide) fl_RX10_25 rfl rfl dX10_breaksIn_45 ?_
      refine cVie (As := []) S G 61 (c_X8_passRound l (D := D) (ct := ct) (ek := ek) (ad := ad) (N0 := N0) (X := X) (F := F) τ 61 isP61 n (hτ.2.1.trans (goK_ok hR k).1) (by omega)) ok_yX8_passRound ml_RX10_215 (isPl0 isP61) (oP isP61) rfl hP hS hl.1 rfl (by decide) rfl rfl (Nat.le_of_ble_eq_true rfl) ⟨by decide, by decide⟩ dX10_breaksIn_48 (fun H locs hP hS => ?_)
      refine lv_pop hx hb dX10_breaksIn_51 rfl ?_
      have hf1 := FcR_s hR hs hτ
      refine lv_aload_n hx hb dX10_breaksIn_52 rfl (lv_at hl 2 rfl) ?_
      refine lv_iload_n hx hb dX10_breaksIn_53 rfl (lv_at hl 4 rfl) ?_
      refine lv_tope (y := nI (tN (x))) h1 ?_
      refine lv_aload_n hx hb dX10_breaksIn_54 rfl (lv_at hl 3 rfl) ?_
      refine gf S G hP 0 3 (by decide) oX rfl inX10 (by decide) fl_RX10_25 rfl rfl dX10_breaksIn_55 ?_
      refine cVie (As := [.int (nI (tN (x))), .ref (ad 61)]) S G (1 + 15) (c_X1_isOverstrained l (D := D) (ct := ct) (ek := ek) (ad := ad) (N0 := N0) (X := X) (F := F) (prM τ 61 n n) (1 + 15) (isBH isH1) (tN (x)) 61 isP61 mb (BOK_c (fun c h8 h9 => hf1.1 c (by omega)) hB0) (by omega)) ok_yX1_isOverstrained ml_RX10_225 (isBl0 (isBH isH1)) (oB (isBH isH1)) rfl hP hS hl.1 rfl (by decide) rfl rfl (Nat.le_of_ble_eq_true rfl) ⟨by decide, by decide⟩ dX10_breaksIn_58 (fun H locs hP hS => ?_)
      refine lv_tope (y := ovK h n mb (tN x) (k + 1)) (ov_e hR hbr h1l hf1) ?_
      have jn_61_1 : ∀ (H : Heap) (locs : List Loc) (ls : Array Slot), wP D ct ek ad X (prM τ 61 n n) H → va_S (fr N0) s.heap H locs → lv_has ls 5 [(4, .int (nI (k + 1))), (3, .int (if ovK h n mb (tN x) (k + 1) = 0 then ckK h n mb (tN x) k else ckK h n mb (tN x) k + 1)), (2, .ref (ad (1 + 15))), (0, .ref (ad 0)), (1, .int x)] → W p l e (rmd 7 2 (6 * 2)) s m args below meth c H locs (0 + 1) (0 + 6 * 1) (vx_MQ below (wQi D ct ek ad N0 X (fun r τ => FcP τ σ ∧ briXT σ h n mb x = 0 ∧ r = nI (briXN h n mb x))) (XCm D ct ek ad N0 X (PXd ["java/lang/IndexOutOfBoundsException", "java/util/NoSuchElementException"] (briXT σ h n mb x) (fun τ => FcP τ σ))) args s 2 (6 * 2) (fr N0)) (F0 m 67 ls []) := by
        intro H locs ls hP hS hl
        refine lv_iload_n hx hb dX10_breaksIn_67 rfl (lv_at hl 1 rfl) ?_
        refine lv_tope (y := ckK h n mb (tN x) (k + 1)) ckK_s.symm ?_
        refine lv_iconst (v := 3) hx hb dX10_breaksIn_68 (by decide) ?_
        refine lv_icmp_lt (tgt := 75) hx hb dX10_breaksIn_69 (by decide) (fun c_69 => ?_) (fun c_69 => ?_)
        · refine lv_iinc (v := nI ((k + 1) + 1)) (lv' := [(4, .int (nI ((k + 1) + 1))), (3, .int (if ovK h n mb (tN x) (k + 1) = 0 then ckK h n mb (tN x) k else ckK h n mb (tN x) k + 1)), (2, .ref (ad (1 + 15))), (0, .ref (ad 0)), (1, .int x)]) hx hb dX10_breaksIn_75 hl (k := 0) rfl (nI_inc _) (by decide) rfl (fun ls hl => ?_)
          refine lv_goto (tgt := 37) hx hb dX10_breaksIn_78 (by decide) ?_
          exact ih (k + 1) (by omega) (by rw [← hbk]; exact (if_pos c_69).symm) _ (FcR_s hR hs hτ) _ _ _ hP hS (lv_v (lv_sub (l' := [(4, .int (nI ((k + 1) + 1))), (3, .int (if ovK h n mb (tN x) (k + 1) = 0 then ckK h n mb (tN x) k else ckK h n mb (tN x) k + 1)), (2, .ref (ad (1 + 15))), (0, .ref (ad 0)), (1, .int x)]) hl [0, 1, 2, 3, 4] rfl) (by first | rfl | simp))
        · have hv : briXN h n mb x = k + 1 := by unfold briXN; rw [← hbk]; exact if_neg c_69 
          refine lv_iload hx hb dX10_breaksIn_72 (lv_at hl 0 rfl) ?_
          exact eIx S hr hlocks hP hS ⟨by decide, by decide⟩ dX10_breaksIn_74 ⟨(FcR_s hR hs hτ).1, (by unfold briXT; rw [if_neg hB9, hv, if_neg (by omega)]), (by rw [hv])⟩
      refine lv_if_eq (tgt := 67) hx hb dX10_breaksIn_61 (by decide) (fun c_61 => ?_) (fun c_61 => ?_)
      · exact jn_61_1 _ _ _ hP hS (lv_v (lv_sub (l' := [(4, .int (nI (k + 1))), (3, .int (ckK h n mb (tN x) k)), (2, .ref (ad (1 + 15))), (0, .ref (ad 0)), (1, .int x)]) hl [0, 1, 2, 3, 4] rfl) (by first | (simp only [c_41, c_61, ↓reduceIte, if_true, if_false]; done) | (simp [c_41, c_61]; done) | rfl))
      · refine lv_iinc (v := (ckK h n mb (tN x) k) + 1) (lv' := [(3, .int ((ckK h n mb (tN x) k) + 1)), (4, .int (nI (k + 1))), (2, .ref (ad (1 + 15))), (0, .ref (ad 0)), (1, .int x)]) hx hb dX10_breaksIn_64 hl (k := 1) rfl rfl (by decide) rfl (fun ls hl => ?_)
        exact jn_61_1 _ _ _ hP hS (lv_v (lv_sub (l' := [(4, .int (nI (k + 1))), (3, .int ((ckK h n mb (tN x) k) + 1)), (2, .ref (ad (1 + 15))), (0, .ref (ad 0)), (1, .int x)]) hl [1, 0, 2, 3, 4] rfl) (by first | (simp only [c_41, c_61, ↓reduceIte, if_true, if_false]; done) | (simp [c_41, c_61]; done) | rfl))
  exact key_37 99 0 (by omega) rfl _ hf0 _ _ _ hP hS (lv_v (lv_sub (l' := [(4, .int 1), (3, .int (ckK h n mb (tN x) 0)), (2, .ref (ad (1 + 15))), (0, .ref (ad 0)), (1, .int x)]) hl [0, 1, 2, 3, 4] rfl) rfl)

/-! the class's commands (laid by wip/p43/spec_x4.py) -/

theorem ok_yX10_commands : COK RX10 yX10_commands cX10_commands 3 (some .int) 0 := ⟨im_yX10_commands, se_RX10_yX10_commands, in_RX10, co_yX10_commands, ⟨rfl, by decide +kernel, by decide +kernel, by decide +kernel⟩, by decide⟩
set_option maxHeartbeats 1000000 in
set_option maxRecDepth 100000 in
theorem c_X10_commands (l : Launch) {D : va_G} {ct : Nat → ClassId} {ek ad : Nat → Nat} {N0 : Nat} {X : va_W} {F : State → Prop} (σ : Mem) (n : Nat) (mb : Nat) (hO : HOK σ 1 n mb) (L : Nat) (hL : σ 239 3 = nI L) (hL6 : L ≤ 60) (j : Nat) (hj : σ 77 1 = nI j) (hj8 : j < 8) (k9 : Nat) (hk9 : σ 77 2 = nI k9) (hk8 : k9 ≤ 8) (cs : Nat → Nat) (hF : ∀ U, F U → FX ek cs N0 U) (hY : ∀ U, F U → FY U) (hlt : l.stackTraces = false) : MXi l yX10_commands cX10_commands 3 (some .int) 7 2 D ct ek ad N0 X F [.ref (ad 0)] σ (fun r τ => CmR τ σ L j k9 r) (fun E τ => (E = "java/lang/IllegalArgumentException" ∧ CmX0 τ σ L) ∨ (E = "java/lang/UnsupportedOperationException" ∧ CmX1 τ σ L)) := by
  refine ms0x (own := RX10) (by decide) rfl (Nat.le_of_ble_eq_true rfl) (fun p e s m args below meth c S hr hlocks hout G hP hS ls hl => ?_)
  have hx := S.1
  have hb := S.2.1
  replace hl : lv_has ls 3 [(0, .ref (ad 0))] := hl
  have FC := hF s G.2.2.2.2.2
  have FZ := hY s G.2.2.2.2.2
  have hn := hO.1
  have hn6 := hO.2.1
  have hB0 := hO.2.2.1
  have hm := hB0.1
  have hm6 := hB0.2.1
  refine lv_aload_n hx hb dX10_commands_0 rfl (lv_at hl 0 rfl) ?_
  refine lv_aload_n hx hb dX10_commands_1 rfl (lv_at hl 0 rfl) ?_
  refine gf S G hP 0 6 (by decide) oX rfl inX10 (by decide) fl_RX10_46 rfl rfl dX10_commands_2 ?_
  refine cVi (As := []) S G 239 (c_X9_readAll l (D := D) (ct := ct) (ek := ek) (ad := ad) (N0 := N0) (X := X) (F := F) σ cs hF L hL hL6) ok_yX9_readAll ml_RX10_274 (by decide) oTX rfl hP hS hl.1 rfl (by decide) rfl rfl (Nat.le_of_ble_eq_true rfl) ⟨by decide, by decide⟩ dX10_commands_5 (fun r_1 τ_2 H locs hp_r_1 hP hS => ?_)
  have hq := hp_r_1
  refine pf S G hP hS 0 10 (x := r_1) tyX10 tyX10_ok nmX10 (by decide) oX rfl inX10 (by decide) fl_RX10_64 rfl rfl rfl rfl (Nat.le_of_ble_eq_true rfl) oX dX10_commands_8 (fun H locs hP hS => ?_)
  refine lv_aload_n hx hb dX10_commands_11 rfl (lv_at hl 0 rfl) ?_
  refine gf S G hP 0 6 (by decide) oX rfl inX10 (by decide) fl_RX10_46 rfl rfl dX10_commands_12 ?_
  refine cVve (As := []) S G 239 (c_X9_clear l (D := D) (ct := ct) (ek := ek) (ad := ad) (N0 := N0) (X := X) (F := F) (sg τ_2 0 10 r_1)) ok_yX9_clear ml_RX10_277 (by decide) oTX rfl hP hS hl.1 rfl (by decide) rfl rfl (Nat.le_of_ble_eq_true rfl) ⟨by decide, by decide⟩ dX10_commands_15 (fun H locs hP hS => ?_)
  replace hP : wP D ct ek ad X (rdX τ_2 r_1) H := hP
  refine lv_aload_n hx hb dX10_commands_18 rfl (lv_at hl 0 rfl) ?_
  refine gf S G hP 0 10 (by decide) oX rfl inX10 (by decide) fl_RX10_64 rfl rfl dX10_commands_19 ?_
  refine lv_tope (y := r_1) (by unfold rdX; simp [sg_at]) ?_
  refine lv_if_lt (tgt := 36) hx hb dX10_commands_22 (by decide) (fun c_22 => ?_) (fun c_22 => ?_)
  · obtain ⟨hr1, n9, h1⟩ := RdQ_1 hq c_22
    rw [hr1] at hP
    have hn30 := h1.2.2.1
    refine lv_aload_n hx hb dX10_commands_36 rfl (lv_at hl 0 rfl) ?_
    refine gf S G hP 0 1 (by decide) oX rfl inX10 (by decide) fl_RX10_16 rfl rfl dX10_commands_37 ?_
    refine lv_aload_n hx hb dX10_commands_40 rfl (lv_at hl 0 rfl) ?_
    refine gf S G hP 0 0 (by decide) oX rfl inX10 (by decide) fl_RX10_10 rfl rfl dX10_commands_41 ?_
    refine cVv (As := [.ref (ad 1)]) S G 21 (c_X5_copyFrom l (D := D) (ct := ct) (ek := ek) (ad := ad) (N0 := N0) (X := X) (F := F) (rdX τ_2 (-1)) 21 isH21 1 isH1 (by first | assumption | omega | (simp [sg_at]; assumption) | (simp [sg_at]; done)) (fun q hq => by rw [rdX_e h1 (by decide) (by decide)]; exact hO.2.2.2 q hq)) ok_yX5_copyFrom ml_RX10_282 (isHl0 isH21) (oH isH21) rfl hP hS hl.1 rfl (by decide) rfl rfl (Nat.le_of_ble_eq_true rfl) ⟨by decide, by decide⟩ dX10_commands_44 (fun τ_6 H locs hp_r_5 hP hS => ?_)
    have hc1 := hp_r_5
    have hd : ∃ n mb, HOK τ_6 21 n mb := ⟨n, mb, HOK_cp hc1 (HOK_c (fun c h8 h9 => rdX_e h1 (by omega) (by omega)) hO)⟩
    have h4 : τ_6 239 4 = nI (n9 + 1) := (congrFun (hc1.1 239 (by decide)) 4).trans (by unfold rdX; simp [sg_at]; exact h1.2.2.2.1)
    have htx : ∀ i, i < n9 + 1 → τ_6 (243 + i) = τ_2 (243 + i) := fun i hi => (hc1.1 _ (by omega)).trans (rdX_c (by omega) (by omega))
    have hlo : ∀ c k, c ≠ 0 → ¬ (21 ≤ c ∧ c < 21 + 20) → c < 239 → carK τ_6 k c = σ c := fun c k g1 g2 g3 => (carK_c hd g2 k (fun i hi => by omega)).trans ((hc1.1 _ g2).trans (rdX_e h1 g1 (Or.inl g3)))
    refine lv_iconst (v := 0) hx hb dX10_commands_47 (by decide) ?_
    refine lv_istore_n (lv' := [(1, .int 0), (0, .ref (ad 0))]) hx hb dX10_commands_48 rfl hl (by decide) rfl (fun ls hl => ?_)
    have key_49 : ∀ (d k : Nat), k + d = n9 + 1 → (∀ i, i < k → carK τ_6 (i + 1) (243 + i) 5 = 0) → ∀ (H : Heap) (locs : List Loc) (ls : Array Slot), wP D ct ek ad X (carK τ_6 k) H → va_S (fr N0) s.heap H locs → lv_has ls 3 [(1, .int (nI k)), (0, .ref (ad 0))] → W p l e (rmd 7 2 (6 * 2)) s m args below meth c H locs 0 0 (vx_MQ below (wQi D ct ek ad N0 X (fun r τ => CmR τ σ L j k9 r)) (XCm D ct ek ad N0 X (fun E τ => (E = "java/lang/IllegalArgumentException" ∧ CmX0 τ σ L) ∨ (E = "java/lang/UnsupportedOperationException" ∧ CmX1 τ σ L))) args s 2 (6 * 2) (fr N0)) (F0 m 49 ls []) := by
      intro d
      induction d with
      | zero =>
        intro k9 hk
        obtain rfl : n9 + 1 = k9 := by omega
        intro hnr H locs ls hP hS hl
        refine lv_iload_n hx hb dX10_commands_49 rfl (lv_at hl 0 rfl) ?_
        refine lv_aload_n hx hb dX10_commands_50 rfl (lv_at hl 1 rfl) ?_
        refine gf S G hP 0 6 (by decide) oX rfl inX10 (by decide) fl_RX10_46 rfl rfl dX10_commands_51 ?_
        refine gfN S G hP 239 4 (by decide) oTX rfl inX9 (by decide) nw_RX10_285 rfl rfl dX10_commands_54 ?_
        refine lv_tope (y := nI (n9 + 1)) (by rw [carK_c hd (by decide) _ (fun i hi => by omega)]; exact h4) ?_
        refine lv_icmp_ge (tgt := 108) hx hb dX10_commands_57 (by decide) (fun c_57 => ?_) (fun c_57 => absurd (nI_le (by omega) (by omega)) c_57)
        refine lv_aload_n hx hb dX10_commands_108 rfl (lv_at hl 1 rfl) ?_
        refine cVv (As := []) S G 0 (c_X10_acceptDraft l (D := D) (ct := ct) (ek := ek) (ad := ad) (N0 := N0) (X := X) (F := F) (carK τ_6 (n9 + 1)) j ((congrFun (hlo 77 _ (by decide) (by decide) (by decide)) 1).trans hj) (by omega) k9 ((congrFun (hlo 77 _ (by decide) (by decide) (by decide)) 2).trans hk9) (by omega) (ZB_e hO.2.2.2 (hlo _ _ (by decide) (by decide) (by decide))) (carK_z hd _)) ok_yX10_acceptDraft ml_RX10_308 (by decide) oX rfl hP hS hl.1 rfl (by decide) rfl rfl (Nat.le_of_ble_eq_true rfl) ⟨by decide, by decide⟩ dX10_commands_109 (fun τ_8 H locs hp_r_7 hP hS => ?_)
        have hac := hp_r_7
        refine lv_aload_n hx hb dX10_commands_112 rfl (lv_at hl 1 rfl) ?_
        refine gf S G hP 0 6 (by decide) oX rfl inX10 (by decide) fl_RX10_46 rfl rfl dX10_commands_113 ?_
        refine gfN S G hP 239 4 (by decide) oTX rfl inX9 (by decide) nw_RX10_285 rfl rfl dX10_commands_116 ?_
        refine lv_tope (y := nI (n9 + 1)) (by obtain ⟨_, w1, w2⟩ := hac; rw [w2.1 239 (by decide), sg_n (by decide), sg_n (by decide), w1.1 239 (by omega), carK_c hd (by decide) _ (fun i hi => by omega)]; exact h4) ?_
        exact eIx S hr hlocks hP hS ⟨by decide, by decide⟩ dX10_commands_119 ⟨τ_2, τ_6, n9, h1, hc1, hnr, hac, rfl⟩
      | succ d ih =>
        intro k hk hnr H locs ls hP hS hl
        have hkn : k < n9 + 1 := by omega
        refine lv_iload_n hx hb dX10_commands_49 rfl (lv_at hl 0 rfl) ?_
        refine lv_aload_n hx hb dX10_commands_50 rfl (lv_at hl 1 rfl) ?_
        refine gf S G hP 0 6 (by decide) oX rfl inX10 (by decide) fl_RX10_46 rfl rfl dX10_commands_51 ?_
        refine gfN S G hP 239 4 (by decide) oTX rfl inX9 (by decide) nw_RX10_285 rfl rfl dX10_commands_54 ?_
        refine lv_tope (y := nI (n9 + 1)) (by rw [carK_c hd (by decide) _ (fun i hi => by omega)]; exact h4) ?_
        refine lv_icmp_ge (tgt := 108) hx hb dX10_commands_57 (by decide) (fun c_57 => absurd c_57 (nI_ge (by omega) (by omega))) (fun c_57 => ?_)
        have hkn : k < n9 + 1 := by omega
        have hk8 := Rd1_k h1 hkn
        have hk0 : carK τ_6 k (243 + k) 0 = nI (kf (σ 240) L (csP (σ 240) L k)) := by
          rw [carK_c hd (by omega) k (fun i hi => by omega), htx k hkn]
          exact (h1.2.2.2.2.2.2.2.2 k hkn).1
        have hkt : tN (carK τ_6 k (243 + k) 0) = kf (σ 240) L (csP (σ 240) L k) := by rw [hk0]; exact tN_nI (by omega)
        refine lv_aload_n hx hb dX10_commands_60 rfl (lv_at hl 1 rfl) ?_
        refine gf S G hP 0 6 (by decide) oX rfl inX10 (by decide) fl_RX10_46 rfl rfl dX10_commands_61 ?_
        refine gfN S G hP 239 1 (by decide) oTX rfl inX9 (by decide) nw_RX10_288 rfl rfl dX10_commands_64 ?_
        refine lv_iload_n hx hb dX10_commands_67 rfl (lv_at hl 0 rfl) ?_
        refine rld S G hP 241 k (by decide) (gTX _) (t0 := 3) rfl rfl (by omega) (by decide) (if_pos (by omega)) dX10_commands_68 ?_
        refine lv_astore_n (lv' := [(2, .ref (ad (243 + k))), (1, .int (nI k)), (0, .ref (ad 0))]) hx hb dX10_commands_69 rfl hl (by decide) rfl (fun ls hl => ?_)
        refine lv_aload_n hx hb dX10_commands_70 rfl (lv_at hl 2 rfl) ?_
        refine gf S G hP 0 1 (by decide) oX rfl inX10 (by decide) fl_RX10_16 rfl rfl dX10_commands_71 ?_
        refine lv_aload_n hx hb dX10_commands_74 rfl (lv_at hl 0 rfl) ?_
        refine cVve (As := [.ref (ad (243 + k))]) S G 21 (c_X5_carryOut l (D := D) (ct := ct) (ek := ek) (ad := ad) (N0 := N0) (X := X) (F := F) (carK τ_6 k) cs hF 21 isH21 (243 + k) (isCt (by omega)) (tN ((carK τ_6 k) (21 + 1) 7)) (tN ((carK τ_6 k) (21 + 15) 4)) (by obtain ⟨n7, m7, g7⟩ := carK_ok hd k; rw [(HOK_tn g7).1, (HOK_tn g7).2]; exact g7) (tN ((carK τ_6 k) (243 + k) 0)) (by rw [hkt]; exact hk8) (by rw [hkt]; exact hk0)) ok_yX5_carryOut ml_RX10_292 (isHl0 isH21) (oH isH21) rfl hP hS hl.1 rfl (by decide) rfl rfl (Nat.le_of_ble_eq_true rfl) ⟨by decide, by decide⟩ dX10_commands_75 (fun H locs hP hS => ?_)
        replace hP : wP D ct ek ad X (carK τ_6 (k + 1)) H := hP
        refine lv_aload_n hx hb dX10_commands_78 rfl (lv_at hl 0 rfl) ?_
        refine cVie (As := []) S G (243 + k) (c_X3_isRefused l (D := D) (ct := ct) (ek := ek) (ad := ad) (N0 := N0) (X := X) (F := F) (carK τ_6 (k + 1)) (243 + k) (isCt (by omega))) ok_yX3_isRefused ml_RX10_296 (isC_lt (isCt (by omega))) (oC (isCt (by omega))) rfl hP hS hl.1 rfl (by decide) rfl rfl (Nat.le_of_ble_eq_true rfl) ⟨by decide, by decide⟩ dX10_commands_79 (fun H locs hP hS => ?_)
        refine lv_if_eq (tgt := 102) hx hb dX10_commands_82 (by decide) (fun c_82 => ?_) (fun c_82 => ?_)
        · refine lv_iinc (v := nI (k + 1)) (lv' := [(1, .int (nI (k + 1))), (2, .ref (ad (243 + k))), (0, .ref (ad 0))]) hx hb dX10_commands_102 hl (k := 1) rfl (nI_inc _) (by decide) rfl (fun ls hl => ?_)
          refine lv_goto (tgt := 49) hx hb dX10_commands_105 (by decide) ?_
          exact ih (k + 1) (by omega) (fun i hi => by rcases Nat.lt_succ_iff_lt_or_eq.mp hi with g | rfl; exact hnr i g; by_cases z : carK τ_6 (i + 1) (243 + i) 5 = 0; exact z; rw [if_neg z] at c_82; exact absurd c_82 (by decide)) _ _ _ hP hS (by first | (refine lv_v (lv_sub (l' := [(1, .int (nI (k + 1))), (0, .ref (ad 0))]) hl [0, 2] rfl) ?_; simp [fo, c_22, c_57, c_82]; done) | exact lv_sub hl [0, 2] rfl)
        · refine lv_aload_n hx hb dX10_commands_85 rfl (lv_at hl 2 rfl) ?_
          refine lv_aload_n hx hb dX10_commands_86 rfl (lv_at hl 0 rfl) ?_
          refine lv_iload_n hx hb dX10_commands_87 rfl (lv_at hl 1 rfl) ?_
          refine cVve (As := [.ref (ad (243 + k)), .int (nI k)]) S G 0 (c_X10_keepReason l (D := D) (ct := ct) (ek := ek) (ad := ad) (N0 := N0) (X := X) (F := F) (carK τ_6 (k + 1)) (243 + k) (isCt (by omega)) (nI k)) ok_yX10_keepReason ml_RX10_299 (by decide) oX rfl hP hS hl.1 rfl (by decide) rfl rfl (Nat.le_of_ble_eq_true rfl) ⟨by decide, by decide⟩ dX10_commands_88 (fun H locs hP hS => ?_)
          exact thSW (names := ["java/lang/RuntimeException", "java/lang/Exception"]) S G FC FZ hlt (List.mem_of_getElem? (i := 17) rfl) th_303_307 hP hS hl.1 hout hlocks rfl ⟨rfl, by decide⟩ (Nat.le_of_ble_eq_true rfl) ⟨by decide, by decide⟩ (Or.inr ⟨rfl, τ_2, τ_6, n9, k, h1, hc1, hkn, hnr, (fun z => c_82 (if_pos z)), rfl⟩) dX10_commands_91 dX10_commands_94 dX10_commands_95 dX10_commands_98 dX10_commands_101
    exact key_49 (n9 + 1) 0 (by omega) (fun i hi => absurd hi (Nat.not_lt_zero _)) _ _ _ hP hS (lv_sub hl [0, 1] rfl)
  · exact thSW (names := ["java/lang/RuntimeException", "java/lang/Exception"]) S G FC FZ hlt (List.mem_of_getElem? (i := 16) rfl) th_137_141 hP hS hl.1 hout hlocks rfl ⟨rfl, by decide⟩ (Nat.le_of_ble_eq_true rfl) ⟨by decide, by decide⟩ (Or.inl ⟨rfl, τ_2, r_1, RdQ_0 hq c_22, rfl⟩) dX10_commands_25 dX10_commands_28 dX10_commands_29 dX10_commands_32 dX10_commands_35

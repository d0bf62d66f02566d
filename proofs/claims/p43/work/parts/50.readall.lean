/-! the class: reading all (laid by wip/p43/spec_house2.py) -/
theorem ok_yX9_readAll : COK RX9 yX9_readAll cX9_readAll 2 (some .int) 0 := ⟨im_yX9_readAll, se_RX9_yX9_readAll, in_RX9, co_yX9_readAll, ⟨rfl, by decide +kernel, by decide +kernel, by decide +kernel⟩, by decide⟩
set_option maxHeartbeats 1000000 in
set_option maxRecDepth 100000 in
theorem c_X9_readAll (l : Launch) {D : va_G} {ct : Nat → ClassId} {ek ad : Nat → Nat} {N0 : Nat} {X : va_W} {F : State → Prop} (σ : Mem) (cs : Nat → Nat) (hF : ∀ U, F U → FX ek cs N0 U) (L : Nat) (hL : σ 239 3 = nI L) (hL6 : L ≤ 60) : MI l yX9_readAll cX9_readAll 2 (some .int) 6 D ct ek ad N0 X F [.ref (ad 239)] σ (fun r τ => RdQ τ σ (σ 240) L r) := by
  refine ms0 (own := RX9) (by decide) rfl (Nat.le_of_ble_eq_true rfl) (fun p e s m args below meth c S hr hlocks hnm G hP hS ls hl => ?_)
  have hx := S.1
  have hb := S.2.1
  replace hl : lv_has ls 2 [(0, .ref (ad 239))] := hl
  have FC := hF s G.2.2.2.2.2
  refine lv_aload_n hx hb dX9_readAll_0 rfl (lv_at hl 0 rfl) ?_
  refine lv_iconst (v := 0) hx hb dX9_readAll_1 (by decide) ?_
  refine pf S G hP hS 239 6 (x := 0) tyX9 tyX9_ok nmX9 (by decide) oTX rfl inX9 (by decide) fl_RX9_28 rfl rfl rfl rfl (Nat.le_of_ble_eq_true rfl) oTX dX9_readAll_2 (fun H locs hP hS => ?_)
  refine lv_aload_n hx hb dX9_readAll_5 rfl (lv_at hl 0 rfl) ?_
  refine lv_iconst (v := 0) hx hb dX9_readAll_6 (by decide) ?_
  refine pf S G hP hS 239 4 (x := 0) tyX9 tyX9_ok nmX9 (by decide) oTX rfl inX9 (by decide) fl_RX9_31 rfl rfl rfl rfl (Nat.le_of_ble_eq_true rfl) oTX dX9_readAll_7 (fun H locs hP hS => ?_)
  refine lv_iconst (v := 0) hx hb dX9_readAll_10 (by decide) ?_
  refine lv_istore_n (lv' := [(1, .int 0), (0, .ref (ad 239))]) hx hb dX9_readAll_11 rfl hl (by decide) rfl (fun ls hl => ?_)
  have key_12 : ∀ (d k : Nat), k + d = 30 → ∀ (τ : Mem), (RdL τ σ (σ 240) L k) → ∀ (H : Heap) (locs : List Loc) (ls : Array Slot), wP D ct ek ad X τ H → va_S (fr N0) s.heap H locs → lv_has ls 2 [(1, .int (nI k)), (0, .ref (ad 239))] → W p l e (rmd 6 0 0) s m args below meth c H locs 0 0 (MQ below (wQi D ct ek ad N0 X (fun r τ => RdQ τ σ (σ 240) L r)) args s 0 0 (fr N0)) (F0 m 12 ls []) := by
    intro d
    induction d with
    | zero =>
      intro k9 hk
      obtain rfl : 30 = k9 := by omega
      intro τ hτ H locs ls hP hS hl
      refine lv_iload_n hx hb dX9_readAll_12 rfl (lv_at hl 0 rfl) ?_
      refine lv_bipush (v := 30) hx hb dX9_readAll_13 (by decide) ?_
      refine lv_icmp_ge (tgt := 63) hx hb dX9_readAll_15 (by decide) (fun c_15 => ?_) (fun c_15 => absurd (by decide) c_15)
      refine lv_aload_n hx hb dX9_readAll_63 rfl (lv_at hl 1 rfl) ?_
      refine gf S G hP 239 6 (by decide) oTX rfl inX9 (by decide) fl_RX9_28 rfl rfl dX9_readAll_64 ?_
      refine lv_tope (y := nI (csP (σ 240) L 30)) hτ.2.2.2.1 ?_
      exact eI S hr hlocks hP hS dX9_readAll_67 (RdL_z hL6 hτ)
    | succ d ih =>
      intro k hk τ hτ H locs ls hP hS hl
      have hkn : k < 30 := by omega
      have hk30 : k < 30 := by omega
      have hT : τ 240 = σ 240 := hτ.1 240 (by decide) (by decide) (by omega)
      have h3 : τ 239 3 = nI L := (hτ.2.1 3 (by omega)).trans hL
      have hpo := RdL_le hL6 hτ
      refine lv_iload_n hx hb dX9_readAll_12 rfl (lv_at hl 0 rfl) ?_
      refine lv_bipush (v := 30) hx hb dX9_readAll_13 (by decide) ?_
      refine lv_icmp_ge (tgt := 63) hx hb dX9_readAll_15 (by decide) (fun c_15 => absurd c_15 (nI_ge (b := 30) (by omega) (by omega))) (fun c_15 => ?_)
      refine lv_aload_n hx hb dX9_readAll_18 rfl (lv_at hl 1 rfl) ?_
      refine cVi (As := []) S G 239 (c_X9_readCommand l (D := D) (ct := ct) (ek := ek) (ad := ad) (N0 := N0) (X := X) (F := F) τ cs (by first | assumption | omega | (simp [sg_at]; assumption) | (simp [sg_at]; done)) (csP (σ 240) L k) hτ.2.2.2.1 L h3 hpo hL6 k hτ.2.2.1 hk30) ok_yX9_readCommand ml_RX9_34 (by decide) oTX rfl hP hS hl.1 rfl (by decide) rfl rfl (Nat.le_of_ble_eq_true rfl) ⟨Nat.zero_le _, Nat.zero_le _⟩ dX9_readAll_19 (fun r_1 τ_2 H locs hp_r_1 hP hS => ?_)
      have hq9 : TxQ τ_2 τ (σ 240) L (csP (σ 240) L k) k r_1 := by have h9 := hp_r_1; rw [hT] at h9; exact h9
      refine lv_if_ne (tgt := 30) hx hb dX9_readAll_22 (by decide) (fun c_22 => ?_) (fun c_22 => ?_)
      · have hw6 := RdL_w hk30 hτ hq9
        refine lv_aload_n hx hb dX9_readAll_30 rfl (lv_at hl 1 rfl) ?_
        refine gf S G hP 239 6 (by decide) oTX rfl inX9 (by decide) fl_RX9_28 rfl rfl dX9_readAll_31 ?_
        refine lv_tope (y := nI (cmE (σ 240) L (csP (σ 240) L k))) hw6.1 ?_
        refine lv_aload_n hx hb dX9_readAll_34 rfl (lv_at hl 1 rfl) ?_
        refine gf S G hP 239 3 (by decide) oTX rfl inX9 (by decide) fl_RX9_24 rfl rfl dX9_readAll_35 ?_
        refine lv_tope (y := nI L) (hw6.2.1.trans hL) ?_
        refine lv_icmp_lt (tgt := 43) hx hb dX9_readAll_38 (by decide) (fun c_38 => ?_) (fun c_38 => ?_)
        · refine lv_aload_n hx hb dX9_readAll_43 rfl (lv_at hl 1 rfl) ?_
          refine lv_bipush (v := 59) hx hb dX9_readAll_44 (by decide) ?_
          refine cVie (As := [.int 59]) S G 239 (c_X9_readExactly l (D := D) (ct := ct) (ek := ek) (ad := ad) (N0 := N0) (X := X) (F := F) τ_2 59 (cmE (σ 240) L (csP (σ 240) L k)) hw6.1 L (hw6.2.1.trans hL) ((cm_le hpo hL6).2) hL6) ok_yX9_readExactly ml_RX9_38 (by decide) oTX rfl hP hS hl.1 rfl (by decide) rfl rfl (Nat.le_of_ble_eq_true rfl) ⟨Nat.zero_le _, Nat.zero_le _⟩ dX9_readAll_46 (fun H locs hP hS => ?_)
          refine lv_tope (y := nxV (σ 240) L (cmE (σ 240) L (csP (σ 240) L k)) 59) (by rw [hw6.2.2]) ?_
          rw [hw6.2.2] at hP
          replace hP : wP D ct ek ad X (sg τ_2 239 6 (nI (nxE (σ 240) L (cmE (σ 240) L (csP (σ 240) L k)) 59))) H := hP
          refine lv_if_ne (tgt := 57) hx hb dX9_readAll_49 (by decide) (fun c_49 => ?_) (fun c_49 => ?_)
          · refine lv_iinc (v := nI (k + 1)) (lv' := [(1, .int (nI (k + 1))), (0, .ref (ad 239))]) hx hb dX9_readAll_57 hl (k := 0) rfl (nI_inc _) (by decide) rfl (fun ls hl => ?_)
            refine lv_goto (tgt := 12) hx hb dX9_readAll_60 (by decide) ?_
            exact ih (k + 1) (by omega) _ (RdL_s hL6 hk30 hτ hq9 c_22 c_38 c_49) _ _ _ hP hS (by first | (refine lv_v (lv_sub (l' := [(1, .int (nI (k + 1))), (0, .ref (ad 239))]) hl [0, 1] rfl) ?_; simp [fo, c_15, c_22, c_38, c_49]; done) | exact lv_sub hl [0, 1] rfl)
          · refine lv_aload_n hx hb dX9_readAll_52 rfl (lv_at hl 1 rfl) ?_
            refine gf S G hP 239 6 (by decide) oTX rfl inX9 (by decide) fl_RX9_28 rfl rfl dX9_readAll_53 ?_
            refine lv_tope (y := nI (nxE (σ 240) L (cmE (σ 240) L (csP (σ 240) L k)) 59)) (by rw [sg_ss]) ?_
            exact eI S hr hlocks hP hS dX9_readAll_56 (RdL_g hL6 hk30 hτ hq9 c_22 c_38 c_49)
        · refine lv_iconst (v := (-1)) hx hb dX9_readAll_41 (by decide) ?_
          exact eI S hr hlocks hP hS dX9_readAll_42 (RdL_e hL6 hk30 hτ hq9 c_22 c_38)
      · have hw6 := RdL_w hk30 hτ hq9
        refine lv_aload_n hx hb dX9_readAll_25 rfl (lv_at hl 1 rfl) ?_
        refine gf S G hP 239 6 (by decide) oTX rfl inX9 (by decide) fl_RX9_28 rfl rfl dX9_readAll_26 ?_
        refine lv_tope (y := nI (cmE (σ 240) L (csP (σ 240) L k))) hw6.1 ?_
        exact eI S hr hlocks hP hS dX9_readAll_29 (RdL_f hL6 hk30 hτ hq9 c_22)
  exact key_12 30 0 (by omega) _ RdL_0 _ _ _ hP hS (lv_sub hl [0, 1] rfl)

/-! the reference: what will be (laid by wip/whole/spec_model5.py) -/
theorem ok_yX11_thinks : COK RX11 yX11_thinks cX11_thinks 2 none 0 := ⟨im_yX11_thinks, se_RX11_yX11_thinks, in_RX11, co_yX11_thinks, ⟨rfl, by decide +kernel, by decide +kernel, by decide +kernel⟩, by decide⟩
set_option maxHeartbeats 1000000 in
set_option maxRecDepth 100000 in
theorem c_X11_thinks (l : Launch) {D : va_G} {ct : Nat → ClassId} {ek ad : Nat → Nat} {N0 : Nat} {X : va_W} {F : State → Prop} (σ : Mem) : MV l yX11_thinks cX11_thinks 2 0 D ct ek ad N0 X F [.ref (ad 276)] σ (fun τ => τ = sb σ 279 (fil (σ 277) (σ 279) 96)) := by
  refine ms0 (own := RX11) (by decide) rfl (Nat.le_of_ble_eq_true rfl) (fun p e s m args below meth c S hr hlocks hnm G hP hS ls hl => ?_)
  have hx := S.1
  have hb := S.2.1
  replace hl : lv_has ls 2 [(0, .ref (ad 276))] := hl
  refine lv_iconst (v := 0) hx hb dX11_thinks_0 (by decide) ?_
  refine lv_istore_n (lv' := [(1, .int 0), (0, .ref (ad 276))]) hx hb dX11_thinks_1 rfl hl (by decide) rfl (fun ls hl => ?_)
  have key_2 : ∀ (d k : Nat), k + d = 96 → ∀ (H : Heap) (locs : List Loc) (ls : Array Slot), wP D ct ek ad X (sb σ 279 (fil (σ 277) (σ 279) k)) H → va_S (fr N0) s.heap H locs → lv_has ls 2 [(1, .int (nI k)), (0, .ref (ad 276))] → W p l e (rmd 0 0 0) s m args below meth c H locs 0 0 (MQ below (wQv D ct ek ad N0 X (fun τ => τ = sb σ 279 (fil (σ 277) (σ 279) 96))) args s 0 0 (fr N0)) (F0 m 2 ls []) := by
    intro d
    induction d with
    | zero =>
      intro k9 hk
      obtain rfl : 96 = k9 := by omega
      intro  H locs ls hP hS hl
      refine lv_iload_n hx hb dX11_thinks_2 rfl (lv_at hl 0 rfl) ?_
      refine lv_bipush (v := 96) hx hb dX11_thinks_3 (by decide) ?_
      refine lv_icmp_ge (tgt := 26) hx hb dX11_thinks_5 (by decide) (fun c_5 => ?_) (fun c_5 => absurd (by decide) c_5)
      exact eV S hr hlocks hP hS dX11_thinks_26 (by first | rfl | (simp [c_5]; done) | (simp only [c_5, ↓reduceIte, if_true, if_false]; done) | grind [])
    | succ d ih =>
      intro k hk  H locs ls hP hS hl
      have hkn : k < 96 := by omega
      refine lv_iload_n hx hb dX11_thinks_2 rfl (lv_at hl 0 rfl) ?_
      refine lv_bipush (v := 96) hx hb dX11_thinks_3 (by decide) ?_
      refine lv_icmp_ge (tgt := 26) hx hb dX11_thinks_5 (by decide) (fun c_5 => absurd c_5 (nI_ge (b := 96) (by omega) (by omega))) (fun c_5 => ?_)
      refine lv_aload_n hx hb dX11_thinks_8 rfl (lv_at hl 1 rfl) ?_
      refine gf S G hP 276 2 (by decide) oM rfl inX11 (by decide) fl_RX11_16 rfl rfl dX11_thinks_9 ?_
      refine lv_iload_n hx hb dX11_thinks_12 rfl (lv_at hl 0 rfl) ?_
      refine lv_aload_n hx hb dX11_thinks_13 rfl (lv_at hl 1 rfl) ?_
      refine gf S G hP 276 0 (by decide) oM rfl inX11 (by decide) fl_RX11_9 rfl rfl dX11_thinks_14 ?_
      refine lv_iload_n hx hb dX11_thinks_17 rfl (lv_at hl 0 rfl) ?_
      refine ald S G hP 277 k (by decide) (aM277 _) rfl (by omega) (by decide) dX11_thinks_18 ?_
      refine lv_tope (y := σ 277 k) (by rw [sb_n (by decide)]) ?_
      refine ast S G hP hS 279 k (by decide) aM279 rfl (by omega) (by decide) dX11_thinks_19 (fun H locs hP hS => ?_)
      refine lv_iinc (v := nI (k + 1)) (lv' := [(1, .int (nI (k + 1))), (0, .ref (ad 276))]) hx hb dX11_thinks_20 hl (k := 0) rfl (nI_inc _) (by decide) rfl (fun ls hl => ?_)
      refine lv_goto (tgt := 2) hx hb dX11_thinks_23 (by decide) ?_
      exact ih (k + 1) (by omega)  _ _ _ (wP_e hP (by rw [sg_sb, fil_s rfl])) hS (by first | exact lv_sub hl [0, 1] rfl | (refine lv_v (lv_sub (l' := [(1, .int (nI (k + 1))), (0, .ref (ad 276))]) hl [0, 1] rfl) ?_; simp [fo, c_5]; done))
  exact key_2 96 0 (by omega)  _ _ _ (wP_e hP (by rw [fil_0, sb_self])) hS (lv_sub hl [0, 1] rfl)

theorem ok_yX11_forgets : COK RX11 yX11_forgets cX11_forgets 2 none 0 := ⟨im_yX11_forgets, se_RX11_yX11_forgets, in_RX11, co_yX11_forgets, ⟨rfl, by decide +kernel, by decide +kernel, by decide +kernel⟩, by decide⟩
set_option maxHeartbeats 1000000 in
set_option maxRecDepth 100000 in
theorem c_X11_forgets (l : Launch) {D : va_G} {ct : Nat → ClassId} {ek ad : Nat → Nat} {N0 : Nat} {X : va_W} {F : State → Prop} (σ : Mem) : MV l yX11_forgets cX11_forgets 2 0 D ct ek ad N0 X F [.ref (ad 276)] σ (fun τ => τ = sb σ 277 (fil (σ 279) (σ 277) 96)) := by
  refine ms0 (own := RX11) (by decide) rfl (Nat.le_of_ble_eq_true rfl) (fun p e s m args below meth c S hr hlocks hnm G hP hS ls hl => ?_)
  have hx := S.1
  have hb := S.2.1
  replace hl : lv_has ls 2 [(0, .ref (ad 276))] := hl
  refine lv_iconst (v := 0) hx hb dX11_forgets_0 (by decide) ?_
  refine lv_istore_n (lv' := [(1, .int 0), (0, .ref (ad 276))]) hx hb dX11_forgets_1 rfl hl (by decide) rfl (fun ls hl => ?_)
  have key_2 : ∀ (d k : Nat), k + d = 96 → ∀ (H : Heap) (locs : List Loc) (ls : Array Slot), wP D ct ek ad X (sb σ 277 (fil (σ 279) (σ 277) k)) H → va_S (fr N0) s.heap H locs → lv_has ls 2 [(1, .int (nI k)), (0, .ref (ad 276))] → W p l e (rmd 0 0 0) s m args below meth c H locs 0 0 (MQ below (wQv D ct ek ad N0 X (fun τ => τ = sb σ 277 (fil (σ 279) (σ 277) 96))) args s 0 0 (fr N0)) (F0 m 2 ls []) := by
    intro d
    induction d with
    | zero =>
      intro k9 hk
      obtain rfl : 96 = k9 := by omega
      intro  H locs ls hP hS hl
      refine lv_iload_n hx hb dX11_forgets_2 rfl (lv_at hl 0 rfl) ?_
      refine lv_bipush (v := 96) hx hb dX11_forgets_3 (by decide) ?_
      refine lv_icmp_ge (tgt := 26) hx hb dX11_forgets_5 (by decide) (fun c_5 => ?_) (fun c_5 => absurd (by decide) c_5)
      exact eV S hr hlocks hP hS dX11_forgets_26 (by first | rfl | (simp [c_5]; done) | (simp only [c_5, ↓reduceIte, if_true, if_false]; done) | grind [])
    | succ d ih =>
      intro k hk  H locs ls hP hS hl
      have hkn : k < 96 := by omega
      refine lv_iload_n hx hb dX11_forgets_2 rfl (lv_at hl 0 rfl) ?_
      refine lv_bipush (v := 96) hx hb dX11_forgets_3 (by decide) ?_
      refine lv_icmp_ge (tgt := 26) hx hb dX11_forgets_5 (by decide) (fun c_5 => absurd c_5 (nI_ge (b := 96) (by omega) (by omega))) (fun c_5 => ?_)
      refine lv_aload_n hx hb dX11_forgets_8 rfl (lv_at hl 1 rfl) ?_
      refine gf S G hP 276 0 (by decide) oM rfl inX11 (by decide) fl_RX11_9 rfl rfl dX11_forgets_9 ?_
      refine lv_iload_n hx hb dX11_forgets_12 rfl (lv_at hl 0 rfl) ?_
      refine lv_aload_n hx hb dX11_forgets_13 rfl (lv_at hl 1 rfl) ?_
      refine gf S G hP 276 2 (by decide) oM rfl inX11 (by decide) fl_RX11_16 rfl rfl dX11_forgets_14 ?_
      refine lv_iload_n hx hb dX11_forgets_17 rfl (lv_at hl 0 rfl) ?_
      refine ald S G hP 279 k (by decide) (aM279 _) rfl (by omega) (by decide) dX11_forgets_18 ?_
      refine lv_tope (y := σ 279 k) (by rw [sb_n (by decide)]) ?_
      refine ast S G hP hS 277 k (by decide) aM277 rfl (by omega) (by decide) dX11_forgets_19 (fun H locs hP hS => ?_)
      refine lv_iinc (v := nI (k + 1)) (lv' := [(1, .int (nI (k + 1))), (0, .ref (ad 276))]) hx hb dX11_forgets_20 hl (k := 0) rfl (nI_inc _) (by decide) rfl (fun ls hl => ?_)
      refine lv_goto (tgt := 2) hx hb dX11_forgets_23 (by decide) ?_
      exact ih (k + 1) (by omega)  _ _ _ (wP_e hP (by rw [sg_sb, fil_s rfl])) hS (by first | exact lv_sub hl [0, 1] rfl | (refine lv_v (lv_sub (l' := [(1, .int (nI (k + 1))), (0, .ref (ad 276))]) hl [0, 1] rfl) ?_; simp [fo, c_5]; done))
  exact key_2 96 0 (by omega)  _ _ _ (wP_e hP (by rw [fil_0, sb_self])) hS (lv_sub hl [0, 1] rfl)

theorem ok_yX11_tiltIn : COK RX11 yX11_tiltIn cX11_tiltIn 5 (some .int) 2 := ⟨im_yX11_tiltIn, se_RX11_yX11_tiltIn, in_RX11, co_yX11_tiltIn, ⟨rfl, by decide +kernel, by decide +kernel, by decide +kernel⟩, by decide⟩
set_option maxHeartbeats 1000000 in
set_option maxRecDepth 100000 in
theorem c_X11_tiltIn (l : Launch) {D : va_G} {ct : Nat → ClassId} {ek ad : Nat → Nat} {N0 : Nat} {X : va_W} {F : State → Prop} (σ : Mem) (x : Int32) (y : Int32) (n : Nat) (mb : Nat) (hR : RowOK (σ 277) n mb) : MI l yX11_tiltIn cX11_tiltIn 5 (some .int) 5 D ct ek ad N0 X F [.ref (ad 276), .int x, .int y] σ (fun r τ => r = tinV σ n mb x y ∧ QG τ σ (tinT σ x y)) := by
  refine ms0 (own := RX11) (by decide) rfl (Nat.le_of_ble_eq_true rfl) (fun p e s m args below meth c S hr hlocks hnm G hP hS ls hl => ?_)
  have hx := S.1
  have hb := S.2.1
  replace hl : lv_has ls 5 [(0, .ref (ad 276)), (1, .int x), (2, .int y)] := hl
  have hn := hR.1
  have hn6 := hR.2.1
  have hm := hR.2.2.1
  have hm6 := hR.2.2.2.1
  have hBq := hR.2.2.2.2.2.2
  refine lv_aload_n hx hb dX11_tiltIn_0 rfl (lv_at hl 0 rfl) ?_
  refine lv_iconst (v := 0) hx hb dX11_tiltIn_1 (by decide) ?_
  refine pf S G hP hS 276 20 (x := 0) tyX11 tyX11_ok nmX11 (by decide) oM rfl inX11 (by decide) fl_RX11_42 rfl rfl rfl rfl (Nat.le_of_ble_eq_true rfl) oM dX11_tiltIn_2 (fun H locs hP hS => ?_)
  refine lv_aload_n hx hb dX11_tiltIn_5 rfl (lv_at hl 0 rfl) ?_
  refine lv_iload_n hx hb dX11_tiltIn_6 rfl (lv_at hl 1 rfl) ?_
  refine cVie (As := [.int x]) S G 276 (c_X11_isOne l (D := D) (ct := ct) (ek := ek) (ad := ad) (N0 := N0) (X := X) (F := F) (sg σ 276 20 0) x) ok_yX11_isOne ml_RX11_71 (by decide) oM rfl hP hS hl.1 rfl (by decide) rfl rfl (Nat.le_of_ble_eq_true rfl) ⟨Nat.zero_le _, Nat.zero_le _⟩ dX11_tiltIn_7 (fun H locs hP hS => ?_)
  refine lv_tope (y := one1 σ x) (by simp [one1, sg_at]) ?_
  refine lv_if_ne (tgt := 19) hx hb dX11_tiltIn_10 (by decide) (fun c_10 => ?_) (fun c_10 => ?_)
  · obtain ⟨h1, h1l⟩ := rngN (show ¬ rngB x 0 (σ 277 0 - 1) = 0 from c_10) hn (by omega)
    refine lv_iload_n hx hb dX11_tiltIn_19 rfl (lv_at hl 2 rfl) ?_
    refine lv_iconst (v := 0) hx hb dX11_tiltIn_20 (by decide) ?_
    refine lv_bipush (v := 30) hx hb dX11_tiltIn_21 (by decide) ?_
    refine cSie (As := [.int y, .int 0, .int 30]) S G (c_X11_in l (D := D) (ct := ct) (ek := ek) (ad := ad) (N0 := N0) (X := X) (F := F) (sg σ 276 20 0) y 0 30) ok_yX11_in ml_RX11_67 hP hS hl.1 rfl (by decide) rfl rfl (Nat.le_of_ble_eq_true rfl) ⟨Nat.zero_le _, Nat.zero_le _⟩ dX11_tiltIn_23 (fun H locs hP hS => ?_)
    refine lv_if_ne (tgt := 35) hx hb dX11_tiltIn_26 (by decide) (fun c_26 => ?_) (fun c_26 => ?_)
    · obtain ⟨h2, h2l⟩ := rngL (n := 30) c_26 rfl (by decide)
      have hgs := fun k => gsV_N (h := σ 277) (mb := mb) hn6 k
      refine lv_aload_n hx hb dX11_tiltIn_35 rfl (lv_at hl 0 rfl) ?_
      refine cVve (As := []) S G 276 (c_X11_thinks l (D := D) (ct := ct) (ek := ek) (ad := ad) (N0 := N0) (X := X) (F := F) (sg σ 276 20 0)) ok_yX11_thinks ml_RX11_182 (by decide) oM rfl hP hS hl.1 rfl (by decide) rfl rfl (Nat.le_of_ble_eq_true rfl) ⟨Nat.zero_le _, Nat.zero_le _⟩ dX11_tiltIn_36 (fun H locs hP hS => ?_)
      refine lv_iconst (v := 0) hx hb dX11_tiltIn_39 (by decide) ?_
      refine lv_istore_n (lv' := [(3, .int 0), (0, .ref (ad 276)), (1, .int x), (2, .int y)]) hx hb dX11_tiltIn_40 rfl hl (by decide) rfl (fun ls hl => ?_)
      refine lv_iconst (v := 0) hx hb dX11_tiltIn_41 (by decide) ?_
      refine lv_istore (lv' := [(4, .int 0), (3, .int 0), (0, .ref (ad 276)), (1, .int x), (2, .int y)]) hx hb dX11_tiltIn_42 hl (by decide) rfl (fun ls hl => ?_)
      have key_44 : ∀ (d k : Nat), k + d = tN y → ∀ (τ : Mem), (LpG τ (sb (sg σ 276 20 0) 279 (fil (σ 277) (σ 279) 96)) (goK (σ 277) n mb k).1) → ∀ (H : Heap) (locs : List Loc) (ls : Array Slot), wP D ct ek ad X τ H → va_S (fr N0) s.heap H locs → lv_has ls 5 [(4, .int (nI k)), (3, .int (gsV (σ 277) n mb k)), (0, .ref (ad 276)), (1, .int x), (2, .int y)] → W p l e (rmd 5 0 0) s m args below meth c H locs 0 0 (MQ below (wQi D ct ek ad N0 X (fun r τ => r = tinV σ n mb x y ∧ QG τ σ (tinT σ x y))) args s 0 0 (fr N0)) (F0 m 44 ls []) := by
        intro d
        induction d with
        | zero =>
          intro k9 hk
          obtain rfl : tN y = k9 := by omega
          intro τ hτ H locs ls hP hS hl
          refine lv_iload hx hb dX11_tiltIn_44 (lv_at hl 0 rfl) ?_
          refine lv_iload_n hx hb dX11_tiltIn_46 rfl (lv_at hl 4 rfl) ?_
          refine lv_tope (y := nI (tN (y))) h2 ?_
          refine lv_icmp_ge (tgt := 63) hx hb dX11_tiltIn_47 (by decide) (fun c_47 => ?_) (fun c_47 => absurd (nI_le (by omega) (by omega)) c_47)
          obtain ⟨j9, hj9, ej9⟩ := hgs (tN y)
          refine lv_aload_n hx hb dX11_tiltIn_63 rfl (lv_at hl 2 rfl) ?_
          refine lv_iload_n hx hb dX11_tiltIn_64 rfl (lv_at hl 3 rfl) ?_
          refine lv_tope (y := nI (tN (x))) h1 ?_
          refine lv_iconst (v := 0) hx hb dX11_tiltIn_65 (by decide) ?_
          refine cVie (As := [.int (nI (tN (x))), .int (nI 0)]) S G 276 (c_X11_of l (D := D) (ct := ct) (ek := ek) (ad := ad) (N0 := N0) (X := X) (F := F) τ (tN (x)) (by omega) 0 (by omega)) ok_yX11_of ml_RX11_83 (by decide) oM rfl hP hS hl.1 rfl (by decide) rfl rfl (Nat.le_of_ble_eq_true rfl) ⟨Nat.zero_le _, Nat.zero_le _⟩ dX11_tiltIn_66 (fun H locs hP hS => ?_)
          refine lv_tope (y := (goK (σ 277) n mb (tN y)).1 (6 + 5 * tN x + 0)) (by rw [hτ.2]) ?_
          refine lv_istore (lv' := [(4, .int ((goK (σ 277) n mb (tN y)).1 (6 + 5 * tN x + 0))), (3, .int (gsV (σ 277) n mb (tN y))), (0, .ref (ad 276)), (1, .int x), (2, .int y)]) hx hb dX11_tiltIn_69 hl (by decide) rfl (fun ls hl => ?_)
          refine lv_aload_n hx hb dX11_tiltIn_71 rfl (lv_at hl 2 rfl) ?_
          refine cVve (As := []) S G 276 (c_X11_forgets l (D := D) (ct := ct) (ek := ek) (ad := ad) (N0 := N0) (X := X) (F := F) τ) ok_yX11_forgets ml_RX11_185 (by decide) oM rfl hP hS hl.1 rfl (by decide) rfl rfl (Nat.le_of_ble_eq_true rfl) ⟨Nat.zero_le _, Nat.zero_le _⟩ dX11_tiltIn_72 (fun H locs hP hS => ?_)
          refine lv_iload_n hx hb dX11_tiltIn_75 rfl (lv_at hl 1 rfl) ?_
          refine lv_if_ge (tgt := 83) hx hb dX11_tiltIn_76 (by decide) (fun c_76 => ?_) (fun c_76 => absurd (by rw [ej9]; exact nI_pos' (by omega)) c_76)
          refine lv_iload hx hb dX11_tiltIn_83 (lv_at hl 0 rfl) ?_
          exact eI S hr hlocks hP hS dX11_tiltIn_85 (by first | exact ⟨by simp [tinV, c_10, c_26], QG_1 (by simp [tinT, c_10, c_26])⟩ | exact ⟨by simp [tinV, c_10, c_26], QG_f hτ (by simp [tinT, c_10, c_26])⟩)
        | succ d ih =>
          intro k hk τ hτ H locs ls hP hS hl
          have hkn : k < tN y := by omega
          refine lv_iload hx hb dX11_tiltIn_44 (lv_at hl 0 rfl) ?_
          refine lv_iload_n hx hb dX11_tiltIn_46 rfl (lv_at hl 4 rfl) ?_
          refine lv_tope (y := nI (tN (y))) h2 ?_
          refine lv_icmp_ge (tgt := 63) hx hb dX11_tiltIn_47 (by decide) (fun c_47 => absurd c_47 (nI_ge (by omega) (by omega))) (fun c_47 => ?_)
          refine lv_iload_n hx hb dX11_tiltIn_50 rfl (lv_at hl 1 rfl) ?_
          refine lv_aload_n hx hb dX11_tiltIn_51 rfl (lv_at hl 2 rfl) ?_
          refine cVie (As := []) S G 276 (c_X11_goesBy l (D := D) (ct := ct) (ek := ek) (ad := ad) (N0 := N0) (X := X) (F := F) τ n ((goK (σ 277) n mb k).2) (by rw [hτ.2]; exact goK_ok hR k)) ok_yX11_goesBy ml_RX11_142 (by decide) oM rfl hP hS hl.1 rfl (by decide) rfl rfl (Nat.le_of_ble_eq_true rfl) ⟨Nat.zero_le _, Nat.zero_le _⟩ dX11_tiltIn_52 (fun H locs hP hS => ?_)
          refine lv_tope (y := gmV (goK (σ 277) n mb k).1 n n) (by rw [hτ.2]) ?_
          refine lv_iadd hx hb dX11_tiltIn_55 ?_
          refine lv_istore_n (lv' := [(3, .int ((gsV (σ 277) n mb k) + (gmV (goK (σ 277) n mb k).1 n n))), (4, .int (nI k)), (0, .ref (ad 276)), (1, .int x), (2, .int y)]) hx hb dX11_tiltIn_56 rfl hl (by decide) rfl (fun ls hl => ?_)
          refine lv_iinc (v := nI (k + 1)) (lv' := [(4, .int (nI (k + 1))), (3, .int ((gsV (σ 277) n mb k) + (gmV (goK (σ 277) n mb k).1 n n))), (0, .ref (ad 276)), (1, .int x), (2, .int y)]) hx hb dX11_tiltIn_57 hl (k := 1) rfl (nI_inc _) (by decide) rfl (fun ls hl => ?_)
          refine lv_goto (tgt := 44) hx hb dX11_tiltIn_60 (by decide) ?_
          exact ih (k + 1) (by omega) _ (LpG_go hτ) _ _ _ hP hS (lv_v (lv_sub (l' := [(4, .int (nI (k + 1))), (3, .int ((gsV (σ 277) n mb k) + (gmV (goK (σ 277) n mb k).1 n n))), (0, .ref (ad 276)), (1, .int x), (2, .int y)]) hl [0, 1, 2, 3, 4] rfl) (by rw [gsV_s]))
      exact key_44 (tN y) 0 (by omega) _ (LpG_0 rfl) _ _ _ hP hS (lv_sub hl [0, 1, 2, 3, 4] rfl)
    · refine lv_aload_n hx hb dX11_tiltIn_29 rfl (lv_at hl 0 rfl) ?_
      refine lv_iconst (v := 2) hx hb dX11_tiltIn_30 (by decide) ?_
      refine cVie (As := [.int 2]) S G 276 (c_X11_raises l (D := D) (ct := ct) (ek := ek) (ad := ad) (N0 := N0) (X := X) (F := F) (sg σ 276 20 0) 2) ok_yX11_raises ml_RX11_64 (by decide) oM rfl hP hS hl.1 rfl (by decide) rfl rfl (Nat.le_of_ble_eq_true rfl) ⟨Nat.zero_le _, Nat.zero_le _⟩ dX11_tiltIn_31 (fun H locs hP hS => ?_)
      exact eI S hr hlocks hP hS dX11_tiltIn_34 (by first | exact ⟨by simp [tinV, c_10, c_26], QG_1 (by simp [tinT, c_10, c_26])⟩ | exact ⟨by simp [tinV, c_10, c_26], QG_f hτ (by simp [tinT, c_10, c_26])⟩)
  · refine lv_aload_n hx hb dX11_tiltIn_13 rfl (lv_at hl 0 rfl) ?_
    refine lv_iconst (v := 1) hx hb dX11_tiltIn_14 (by decide) ?_
    refine cVie (As := [.int 1]) S G 276 (c_X11_raises l (D := D) (ct := ct) (ek := ek) (ad := ad) (N0 := N0) (X := X) (F := F) (sg σ 276 20 0) 1) ok_yX11_raises ml_RX11_64 (by decide) oM rfl hP hS hl.1 rfl (by decide) rfl rfl (Nat.le_of_ble_eq_true rfl) ⟨Nat.zero_le _, Nat.zero_le _⟩ dX11_tiltIn_15 (fun H locs hP hS => ?_)
    exact eI S hr hlocks hP hS dX11_tiltIn_18 (by first | exact ⟨by simp [tinV, c_10], QG_1 (by simp [tinT, c_10])⟩ | exact ⟨by simp [tinV, c_10], QG_f hτ (by simp [tinT, c_10])⟩)

theorem ok_yX11_restsIn : COK RX11 yX11_restsIn cX11_restsIn 2 (some .int) 0 := ⟨im_yX11_restsIn, se_RX11_yX11_restsIn, in_RX11, co_yX11_restsIn, ⟨rfl, by decide +kernel, by decide +kernel, by decide +kernel⟩, by decide⟩
set_option maxHeartbeats 1000000 in
set_option maxRecDepth 100000 in
theorem c_X11_restsIn (l : Launch) {D : va_G} {ct : Nat → ClassId} {ek ad : Nat → Nat} {N0 : Nat} {X : va_W} {F : State → Prop} (σ : Mem) (n : Nat) (mb : Nat) (hR : RowOK (σ 277) n mb) : MI l yX11_restsIn cX11_restsIn 2 (some .int) 5 D ct ek ad N0 X F [.ref (ad 276)] σ (fun r τ => r = rstiV (σ 277) n mb ∧ QG τ σ (rstiT (σ 277) n mb)) := by
  refine ms0 (own := RX11) (by decide) rfl (Nat.le_of_ble_eq_true rfl) (fun p e s m args below meth c S hr hlocks hnm G hP hS ls hl => ?_)
  have hx := S.1
  have hb := S.2.1
  replace hl : lv_has ls 2 [(0, .ref (ad 276))] := hl
  have hn := hR.1
  have hn6 := hR.2.1
  have hm := hR.2.2.1
  have hm6 := hR.2.2.2.1
  have hBq := hR.2.2.2.2.2.2
  refine lv_aload_n hx hb dX11_restsIn_0 rfl (lv_at hl 0 rfl) ?_
  refine lv_iconst (v := 0) hx hb dX11_restsIn_1 (by decide) ?_
  refine pf S G hP hS 276 20 (x := 0) tyX11 tyX11_ok nmX11 (by decide) oM rfl inX11 (by decide) fl_RX11_42 rfl rfl rfl rfl (Nat.le_of_ble_eq_true rfl) oM dX11_restsIn_2 (fun H locs hP hS => ?_)
  refine lv_aload_n hx hb dX11_restsIn_5 rfl (lv_at hl 0 rfl) ?_
  refine gf S G hP 276 0 (by decide) oM rfl inX11 (by decide) fl_RX11_9 rfl rfl dX11_restsIn_6 ?_
  refine lv_iconst (v := 0) hx hb dX11_restsIn_9 (by decide) ?_
  refine ald S G hP 277 0 (by decide) (aM277 _) (by decide) (by omega) (by decide) dX11_restsIn_10 ?_
  refine lv_if_ne (tgt := 20) hx hb dX11_restsIn_11 (by decide) (fun c_11 => ?_) (fun c_11 => ?_)
  · have h0 : ¬ n = 0 := fun h => c_11 (by rw [th_r, hn, h]; exact nI_0)
    refine lv_aload_n hx hb dX11_restsIn_20 rfl (lv_at hl 0 rfl) ?_
    refine cVve (As := []) S G 276 (c_X11_thinks l (D := D) (ct := ct) (ek := ek) (ad := ad) (N0 := N0) (X := X) (F := F) (sg σ 276 20 0)) ok_yX11_thinks ml_RX11_182 (by decide) oM rfl hP hS hl.1 rfl (by decide) rfl rfl (Nat.le_of_ble_eq_true rfl) ⟨Nat.zero_le _, Nat.zero_le _⟩ dX11_restsIn_21 (fun H locs hP hS => ?_)
    refine lv_iconst (v := 0) hx hb dX11_restsIn_24 (by decide) ?_
    refine lv_istore_n (lv' := [(1, .int 0), (0, .ref (ad 276))]) hx hb dX11_restsIn_25 rfl hl (by decide) rfl (fun ls hl => ?_)
    have key_26 : ∀ (d k : Nat), k + d = 100 → (rsR (σ 277) n mb d k = rsR (σ 277) n mb 100 0) → ∀ (τ : Mem), (LpG τ (sb (sg σ 276 20 0) 279 (fil (σ 277) (σ 279) 96)) (goK (σ 277) n mb k).1) → ∀ (H : Heap) (locs : List Loc) (ls : Array Slot), wP D ct ek ad X τ H → va_S (fr N0) s.heap H locs → lv_has ls 2 [(1, .int (nI k)), (0, .ref (ad 276))] → W p l e (rmd 5 0 0) s m args below meth c H locs 0 0 (MQ below (wQi D ct ek ad N0 X (fun r τ => r = rstiV (σ 277) n mb ∧ QG τ σ (rstiT (σ 277) n mb))) args s 0 0 (fr N0)) (F0 m 26 ls []) := by
      intro d
      induction d with
      | zero =>
        intro k9 hk
        obtain rfl : 100 = k9 := by omega
        intro hrs τ hτ H locs ls hP hS hl
        refine lv_iload_n hx hb dX11_restsIn_26 rfl (lv_at hl 0 rfl) ?_
        refine lv_bipush (v := 100) hx hb dX11_restsIn_27 (by decide) ?_
        refine lv_icmp_ge (tgt := 45) hx hb dX11_restsIn_29 (by decide) (fun c_29 => ?_) (fun c_29 => absurd (by decide) c_29)
        have hv : rsR (σ 277) n mb 100 0 = 100 := hrs.symm
        refine lv_aload_n hx hb dX11_restsIn_45 rfl (lv_at hl 1 rfl) ?_
        refine cVve (As := []) S G 276 (c_X11_forgets l (D := D) (ct := ct) (ek := ek) (ad := ad) (N0 := N0) (X := X) (F := F) τ) ok_yX11_forgets ml_RX11_185 (by decide) oM rfl hP hS hl.1 rfl (by decide) rfl rfl (Nat.le_of_ble_eq_true rfl) ⟨Nat.zero_le _, Nat.zero_le _⟩ dX11_restsIn_46 (fun H locs hP hS => ?_)
        refine lv_iload_n hx hb dX11_restsIn_49 rfl (lv_at hl 0 rfl) ?_
        refine lv_bipush (v := 99) hx hb dX11_restsIn_50 (by decide) ?_
        refine lv_icmp_le (tgt := 63) hx hb dX11_restsIn_52 (by decide) (fun c_52 => absurd c_52 (by decide)) (fun c_52 => ?_)
        refine lv_aload_n hx hb dX11_restsIn_55 rfl (lv_at hl 1 rfl) ?_
        refine lv_iconst (v := 1) hx hb dX11_restsIn_56 (by decide) ?_
        refine cVie (As := [.int 1]) S G 276 (c_X11_raises l (D := D) (ct := ct) (ek := ek) (ad := ad) (N0 := N0) (X := X) (F := F) (sb τ 277 (fil (τ 279) (τ 277) 96)) 1) ok_yX11_raises ml_RX11_64 (by decide) oM rfl hP hS hl.1 rfl (by decide) rfl rfl (Nat.le_of_ble_eq_true rfl) ⟨Nat.zero_le _, Nat.zero_le _⟩ dX11_restsIn_57 (fun H locs hP hS => ?_)
        refine lv_goto (tgt := 64) hx hb dX11_restsIn_60 (by decide) ?_
        exact eI S hr hlocks hP hS dX11_restsIn_64 (by first | exact ⟨by simp [rstiV, h0, hv], QG_1 (by simp [rstiT, h0, hv])⟩ | exact ⟨by simp [rstiV, h0, hv], QG_f2 hτ (by simp [rstiT, h0, hv])⟩ | exact ⟨by rw [rstiV, if_neg h0, hv, if_neg (show ¬ 99 < k by omega)], QG_f (LpG_go hτ) (by rw [rstiT, if_neg h0, hv, if_neg (show ¬ 99 < k by omega)])⟩)
      | succ d ih =>
        intro k hk hrs τ hτ H locs ls hP hS hl
        have hkn : k < 100 := by omega
        refine lv_iload_n hx hb dX11_restsIn_26 rfl (lv_at hl 0 rfl) ?_
        refine lv_bipush (v := 100) hx hb dX11_restsIn_27 (by decide) ?_
        refine lv_icmp_ge (tgt := 45) hx hb dX11_restsIn_29 (by decide) (fun c_29 => absurd c_29 (nI_ge (b := 100) (by omega) (by omega))) (fun c_29 => ?_)
        refine lv_aload_n hx hb dX11_restsIn_32 rfl (lv_at hl 1 rfl) ?_
        refine cVie (As := []) S G 276 (c_X11_goesBy l (D := D) (ct := ct) (ek := ek) (ad := ad) (N0 := N0) (X := X) (F := F) τ n ((goK (σ 277) n mb k).2) (by rw [hτ.2]; exact goK_ok hR k)) ok_yX11_goesBy ml_RX11_142 (by decide) oM rfl hP hS hl.1 rfl (by decide) rfl rfl (Nat.le_of_ble_eq_true rfl) ⟨Nat.zero_le _, Nat.zero_le _⟩ dX11_restsIn_33 (fun H locs hP hS => ?_)
        refine lv_tope (y := gmV (goK (σ 277) n mb k).1 n n) (by rw [hτ.2]) ?_
        refine lv_if_le (tgt := 45) hx hb dX11_restsIn_36 (by decide) (fun c_36 => ?_) (fun c_36 => ?_)
        · have hv : rsR (σ 277) n mb 100 0 = k := by rw [← hrs]; exact if_pos c_36
          refine lv_aload_n hx hb dX11_restsIn_45 rfl (lv_at hl 1 rfl) ?_
          refine cVve (As := []) S G 276 (c_X11_forgets l (D := D) (ct := ct) (ek := ek) (ad := ad) (N0 := N0) (X := X) (F := F) (goM τ n ((goK (σ 277) n mb k).2))) ok_yX11_forgets ml_RX11_185 (by decide) oM rfl hP hS hl.1 rfl (by decide) rfl rfl (Nat.le_of_ble_eq_true rfl) ⟨Nat.zero_le _, Nat.zero_le _⟩ dX11_restsIn_46 (fun H locs hP hS => ?_)
          refine lv_iload_n hx hb dX11_restsIn_49 rfl (lv_at hl 0 rfl) ?_
          refine lv_bipush (v := 99) hx hb dX11_restsIn_50 (by decide) ?_
          refine lv_icmp_le (tgt := 63) hx hb dX11_restsIn_52 (by decide) (fun c_52 => ?_) (fun c_52 => absurd (nI_le (b := 99) (by omega) (by omega)) c_52)
          refine lv_iload_n hx hb dX11_restsIn_63 rfl (lv_at hl 0 rfl) ?_
          exact eI S hr hlocks hP hS dX11_restsIn_64 (by first | exact ⟨by simp [rstiV, h0, hv], QG_1 (by simp [rstiT, h0, hv])⟩ | exact ⟨by simp [rstiV, h0, hv], QG_f2 hτ (by simp [rstiT, h0, hv])⟩ | exact ⟨by rw [rstiV, if_neg h0, hv, if_neg (show ¬ 99 < k by omega)], QG_f (LpG_go hτ) (by rw [rstiT, if_neg h0, hv, if_neg (show ¬ 99 < k by omega)])⟩)
        · refine lv_iinc (v := nI (k + 1)) (lv' := [(1, .int (nI (k + 1))), (0, .ref (ad 276))]) hx hb dX11_restsIn_39 hl (k := 0) rfl (nI_inc _) (by decide) rfl (fun ls hl => ?_)
          refine lv_goto (tgt := 26) hx hb dX11_restsIn_42 (by decide) ?_
          exact ih (k + 1) (by omega) (by rw [← hrs]; exact (if_neg c_36).symm) _ (LpG_go hτ) _ _ _ hP hS (by first | (refine lv_v (lv_sub (l' := [(1, .int (nI (k + 1))), (0, .ref (ad 276))]) hl [0, 1] rfl) ?_; simp [fo, c_11, h0, c_29, c_36]; done) | exact lv_sub hl [0, 1] rfl)
    exact key_26 100 0 (by omega) rfl _ (LpG_0 rfl) _ _ _ hP hS (lv_sub hl [0, 1] rfl)
  · have h0 : n = 0 := by rw [th_r, hn] at c_11; exact (nI_eq (by omega) (by omega)).mp c_11
    refine lv_aload_n hx hb dX11_restsIn_14 rfl (lv_at hl 0 rfl) ?_
    refine lv_iconst (v := 1) hx hb dX11_restsIn_15 (by decide) ?_
    refine cVie (As := [.int 1]) S G 276 (c_X11_raises l (D := D) (ct := ct) (ek := ek) (ad := ad) (N0 := N0) (X := X) (F := F) (sg σ 276 20 0) 1) ok_yX11_raises ml_RX11_64 (by decide) oM rfl hP hS hl.1 rfl (by decide) rfl rfl (Nat.le_of_ble_eq_true rfl) ⟨Nat.zero_le _, Nat.zero_le _⟩ dX11_restsIn_16 (fun H locs hP hS => ?_)
    exact eI S hr hlocks hP hS dX11_restsIn_19 (by first | exact ⟨by simp [rstiV, h0], QG_1 (by simp [rstiT, h0])⟩ | exact ⟨by simp [rstiV, h0], QG_f2 hτ (by simp [rstiT, h0])⟩ | exact ⟨by rw [rstiV, if_neg h0, hv, if_neg (show ¬ 99 < k by omega)], QG_f (LpG_go hτ) (by rw [rstiT, if_neg h0, hv, if_neg (show ¬ 99 < k by omega)])⟩)

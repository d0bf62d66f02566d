/-! the JDK's methods over the constant texts (laid by wip/whole/spec_jdk.py) -/
theorem ok_yJ0_isLatin1_aae02 : COK RJ0 yJ0_isLatin1_aae02 cJ0_isLatin1_aae02 1 (some .boolean) 0 := ⟨im_yJ0_isLatin1_aae02, se_RJ0_yJ0_isLatin1_aae02, in_RJ0, co_yJ0_isLatin1_aae02, ⟨rfl, by decide +kernel, by decide +kernel, by decide +kernel⟩, by decide⟩
set_option maxHeartbeats 1000000 in
set_option maxRecDepth 100000 in
theorem c_J0_isLatin1_aae02 (l : Launch) {D : va_G} {ct : Nat → ClassId} {ek ad : Nat → Nat} {N0 : Nat} {X : va_W} {F : State → Prop} (σ : Mem) (cs : Nat → Nat) (hF : ∀ U, F U → FX ek cs N0 U) (i : Nat) (hi : i < 9) : MI l yJ0_isLatin1_aae02 cJ0_isLatin1_aae02 1 (some .boolean) 0 D ct ek ad N0 X F [.ref (cs i)] σ (fun r τ => r = 1 ∧ τ = σ) := by
  refine ms0 (own := RJ0) (by decide) rfl (Nat.le_of_ble_eq_true rfl) (fun p e s m args below meth c S hr hlocks hnm G hP hS ls hl => ?_)
  have hx := S.1
  have hb := S.2.1
  replace hl : lv_has ls 1 [(0, .ref (cs i))] := hl
  have FC := hF s G.2.2.2.2.2
  refine va_gets (A := fr N0) hx hb FC.comp hS S.2.2.2.1 (S.2.2.2.2 _ fl_RJ0_38) (fun _ h => h) dJ0_isLatin1_aae02_0 ?_
  refine lv_if_eq (tgt := 17) hx hb dJ0_isLatin1_aae02_3 (by decide) (fun c_3 => absurd c_3 (by decide)) (fun c_3 => ?_)
  refine lv_aload_n hx hb dJ0_isLatin1_aae02_6 rfl (lv_at hl 0 rfl) ?_
  refine vk_getf (A := fr N0) hx hb (FC.str.1 i hi).2.1 hS S.2.2.2.1 (S.2.2.2.2 _ fl_RJ0_15) (fun _ h => h) dJ0_isLatin1_aae02_7 ?_
  refine lv_if_ne (tgt := 17) hx hb dJ0_isLatin1_aae02_10 (by decide) (fun c_10 => absurd rfl c_10) (fun c_10 => ?_)
  refine lv_iconst (v := 1) hx hb dJ0_isLatin1_aae02_13 (by decide) ?_
  refine lv_goto (tgt := 18) hx hb dJ0_isLatin1_aae02_14 (by decide) ?_
  exact eZ S hr hlocks hP hS (by decide) dJ0_isLatin1_aae02_18 (by first | exact ⟨rfl, rfl⟩ | (refine ⟨?_, rfl⟩; simp [c_3, c_10]; done) | (simp [c_3, c_10]; done) | (simp only [c_3, c_10, ↓reduceIte, if_true, if_false, and_self, true_and]; done) | grind [])

theorem ok_yJ0_coder_7d493 : COK RJ0 yJ0_coder_7d493 cJ0_coder_7d493 1 (some .byte) 0 := ⟨im_yJ0_coder_7d493, se_RJ0_yJ0_coder_7d493, in_RJ0, co_yJ0_coder_7d493, ⟨rfl, by decide +kernel, by decide +kernel, by decide +kernel⟩, by decide⟩
set_option maxHeartbeats 1000000 in
set_option maxRecDepth 100000 in
theorem c_J0_coder_7d493 (l : Launch) {D : va_G} {ct : Nat → ClassId} {ek ad : Nat → Nat} {N0 : Nat} {X : va_W} {F : State → Prop} (σ : Mem) (cs : Nat → Nat) (hF : ∀ U, F U → FX ek cs N0 U) (i : Nat) (hi : i < 9) : MI l yJ0_coder_7d493 cJ0_coder_7d493 1 (some .byte) 0 D ct ek ad N0 X F [.ref (cs i)] σ (fun r τ => r = 0 ∧ τ = σ) := by
  refine ms0 (own := RJ0) (by decide) rfl (Nat.le_of_ble_eq_true rfl) (fun p e s m args below meth c S hr hlocks hnm G hP hS ls hl => ?_)
  have hx := S.1
  have hb := S.2.1
  replace hl : lv_has ls 1 [(0, .ref (cs i))] := hl
  have FC := hF s G.2.2.2.2.2
  refine va_gets (A := fr N0) hx hb FC.comp hS S.2.2.2.1 (S.2.2.2.2 _ fl_RJ0_38) (fun _ h => h) dJ0_coder_7d493_0 ?_
  refine lv_if_eq (tgt := 13) hx hb dJ0_coder_7d493_3 (by decide) (fun c_3 => absurd c_3 (by decide)) (fun c_3 => ?_)
  refine lv_aload_n hx hb dJ0_coder_7d493_6 rfl (lv_at hl 0 rfl) ?_
  refine vk_getf (A := fr N0) hx hb (FC.str.1 i hi).2.1 hS S.2.2.2.1 (S.2.2.2.2 _ fl_RJ0_15) (fun _ h => h) dJ0_coder_7d493_7 ?_
  refine lv_goto (tgt := 14) hx hb dJ0_coder_7d493_10 (by decide) ?_
  exact eZ S hr hlocks hP hS (by decide) dJ0_coder_7d493_14 (by first | exact ⟨rfl, rfl⟩ | (refine ⟨?_, rfl⟩; simp [c_3]; done) | (simp [c_3]; done) | (simp only [c_3, ↓reduceIte, if_true, if_false, and_self, true_and]; done) | grind [])

theorem ok_yJ0_length_8abf5 : COK RJ0 yJ0_length_8abf5 cJ0_length_8abf5 1 (some .int) 0 := ⟨im_yJ0_length_8abf5, se_RJ0_yJ0_length_8abf5, in_RJ0, co_yJ0_length_8abf5, ⟨rfl, by decide +kernel, by decide +kernel, by decide +kernel⟩, by decide⟩
set_option maxHeartbeats 1000000 in
set_option maxRecDepth 100000 in
theorem c_J0_length_8abf5 (l : Launch) {D : va_G} {ct : Nat → ClassId} {ek ad : Nat → Nat} {N0 : Nat} {X : va_W} {F : State → Prop} (σ : Mem) (cs : Nat → Nat) (hF : ∀ U, F U → FX ek cs N0 U) (i : Nat) (hi : i < 9) : MI l yJ0_length_8abf5 cJ0_length_8abf5 1 (some .int) 1 D ct ek ad N0 X F [.ref (cs i)] σ (fun r τ => r = nI (strL.getD i 0) ∧ τ = σ) := by
  refine ms0 (own := RJ0) (by decide) rfl (Nat.le_of_ble_eq_true rfl) (fun p e s m args below meth c S hr hlocks hnm G hP hS ls hl => ?_)
  have hx := S.1
  have hb := S.2.1
  replace hl : lv_has ls 1 [(0, .ref (cs i))] := hl
  have FC := hF s G.2.2.2.2.2
  refine lv_aload_n hx hb dJ0_length_8abf5_0 rfl (lv_at hl 0 rfl) ?_
  refine vk_getf (A := fr N0) hx hb (FC.str.1 i hi).2.2.1 hS S.2.2.2.1 (S.2.2.2.2 _ fl_RJ0_9) (fun _ h => h) dJ0_length_8abf5_1 ?_
  refine va_tlen (A := fr N0) (v := nI (strL.getD i 0)) hx hb (FC.str.1 i hi).2.2.2 hS rfl dJ0_length_8abf5_4 ?_
  refine lv_aload_n hx hb dJ0_length_8abf5_5 rfl (lv_at hl 0 rfl) ?_
  refine cKie (As := []) S G (c_J0_coder_7d493 l (D := D) (ct := ct) (ek := ek) (ad := ad) (N0 := N0) (X := X) (F := F) σ cs (by first | assumption | omega | (simp [sg_at]; assumption) | (simp [sg_at]; done)) i hi) ok_yJ0_coder_7d493 ml_RJ0_335 (vk_recv FC.str hi hS) hP hS hl.1 rfl (by decide) rfl rfl (Nat.le_of_ble_eq_true rfl) ⟨Nat.zero_le _, Nat.zero_le _⟩ dJ0_length_8abf5_6 (fun H locs hP hS => ?_)
  refine lv_ishr hx hb dJ0_length_8abf5_9 ?_
  refine lv_tope (y := nI (strL.getD i 0)) (sh0 _) ?_
  exact eI S hr hlocks hP hS dJ0_length_8abf5_10 (by first | exact ⟨rfl, rfl⟩ | (refine ⟨?_, rfl⟩; simp []; done) | (simp []; done) | (simp only [↓reduceIte, if_true, if_false, and_self, true_and]; done) | grind [])

theorem ok_yJ3_checkIndex_8e157 : COKs RJ3 yJ3_checkIndex_8e157 cJ3_checkIndex_8e157 3 (some .int) 3 := ⟨sm_yJ3_checkIndex_8e157, in_RJ3, co_yJ3_checkIndex_8e157, ⟨rfl, by decide +kernel, by decide +kernel, by decide +kernel⟩, by decide⟩
set_option maxHeartbeats 1000000 in
set_option maxRecDepth 100000 in
theorem c_J3_checkIndex_8e157 (l : Launch) {D : va_G} {ct : Nat → ClassId} {ek ad : Nat → Nat} {N0 : Nat} {X : va_W} {F : State → Prop} (σ : Mem) (j : Nat) (n : Nat) (v : Value) (hv : v = .null ∨ ∃ t, v = .ref t) (hj : j < n) (hn : n ≤ 1000) : MI l yJ3_checkIndex_8e157 cJ3_checkIndex_8e157 3 (some .int) 0 D ct ek ad N0 X F [.int (nI j), .int (nI n), v] σ (fun r τ => r = nI j ∧ τ = σ) := by
  refine ms0 (own := RJ3) (by decide) rfl (by rcases hv with rfl | ⟨t, rfl⟩ <;> exact Nat.le_refl _) (fun p e s m args below meth c S hr hlocks hnm G hP hS ls hl => ?_)
  have hx := S.1
  have hb := S.2.1
  replace hl : lv_has ls 3 [(0, .int (nI j)), (1, .int (nI n)), (2, v)] := hl
  refine lv_iload_n hx hb dJ3_checkIndex_8e157_0 rfl (lv_at hl 0 rfl) ?_
  refine lv_if_lt (tgt := 9) hx hb dJ3_checkIndex_8e157_1 (by decide) (fun c_1 => absurd c_1 (nI_pos (by omega))) (fun c_1 => ?_)
  refine lv_iload_n hx hb dJ3_checkIndex_8e157_4 rfl (lv_at hl 0 rfl) ?_
  refine lv_iload_n hx hb dJ3_checkIndex_8e157_5 rfl (lv_at hl 1 rfl) ?_
  refine lv_icmp_lt (tgt := 16) hx hb dJ3_checkIndex_8e157_6 (by decide) (fun c_6 => ?_) (fun c_6 => absurd (nI_lt (by omega) (by omega)) c_6)
  refine lv_iload_n hx hb dJ3_checkIndex_8e157_16 rfl (lv_at hl 0 rfl) ?_
  exact eI S hr hlocks hP hS dJ3_checkIndex_8e157_17 (by first | exact ⟨rfl, rfl⟩ | (refine ⟨?_, rfl⟩; simp [c_1, c_6]; done) | (simp [c_1, c_6]; done) | (simp only [c_1, c_6, ↓reduceIte, if_true, if_false, and_self, true_and]; done) | grind [])

theorem ok_yJ0_checkIndex_df160 : COKs RJ0 yJ0_checkIndex_df160 cJ0_checkIndex_df160 2 none 2 := ⟨sm_yJ0_checkIndex_df160, in_RJ0, co_yJ0_checkIndex_df160, ⟨rfl, by decide +kernel, by decide +kernel, by decide +kernel⟩, by decide⟩
set_option maxHeartbeats 1000000 in
set_option maxRecDepth 100000 in
theorem c_J0_checkIndex_df160 (l : Launch) {D : va_G} {ct : Nat → ClassId} {ek ad : Nat → Nat} {N0 : Nat} {X : va_W} {F : State → Prop} (σ : Mem) (cs : Nat → Nat) (hF : ∀ U, F U → FX ek cs N0 U) (j : Nat) (n : Nat) (hj : j < n) (hn : n ≤ 1000) : MV l yJ0_checkIndex_df160 cJ0_checkIndex_df160 2 1 D ct ek ad N0 X F [.int (nI j), .int (nI n)] σ (fun τ => τ = σ) := by
  refine ms0 (own := RJ0) (by decide) rfl (Nat.le_of_ble_eq_true rfl) (fun p e s m args below meth c S hr hlocks hnm G hP hS ls hl => ?_)
  have hx := S.1
  have hb := S.2.1
  replace hl : lv_has ls 2 [(0, .int (nI j)), (1, .int (nI n))] := hl
  have FC := hF s G.2.2.2.2.2
  refine lv_iload_n hx hb dJ0_checkIndex_df160_0 rfl (lv_at hl 0 rfl) ?_
  refine lv_iload_n hx hb dJ0_checkIndex_df160_1 rfl (lv_at hl 1 rfl) ?_
  obtain ⟨v9, hvv9, hv9⟩ := FC.sio
  refine va_gets (A := fr N0) hx hb hv9 hS S.2.2.2.1 (S.2.2.2.2 _ fl_RJ0_1053) (fun _ h => h) dJ0_checkIndex_df160_2 ?_
  refine cSie (As := [.int (nI j), .int (nI n), v9]) S G (c_J3_checkIndex_8e157 l (D := D) (ct := ct) (ek := ek) (ad := ad) (N0 := N0) (X := X) (F := F) σ j n v9 (by first | assumption | omega | (simp [sg_at]; assumption) | (simp [sg_at]; done)) (by omega) (by omega)) ok_yJ3_checkIndex_8e157 ml_RJ0_1059 hP hS hl.1 rfl (by decide) rfl rfl (Nat.le_of_ble_eq_true rfl) ⟨Nat.zero_le _, Nat.zero_le _⟩ dJ0_checkIndex_df160_5 (fun H locs hP hS => ?_)
  refine lv_pop hx hb dJ0_checkIndex_df160_8 rfl ?_
  exact eV S hr hlocks hP hS dJ0_checkIndex_df160_9 (by first | rfl | (simp []; done) | (simp only [↓reduceIte, if_true, if_false]; done) | grind [])

theorem ok_yJ1_charAt_3b067 : COKs RJ1 yJ1_charAt_3b067 cJ1_charAt_3b067 2 (some .char) 2 := ⟨sm_yJ1_charAt_3b067, in_RJ1, co_yJ1_charAt_3b067, ⟨rfl, by decide +kernel, by decide +kernel, by decide +kernel⟩, by decide⟩
set_option maxHeartbeats 1000000 in
set_option maxRecDepth 100000 in
theorem c_J1_charAt_3b067 (l : Launch) {D : va_G} {ct : Nat → ClassId} {ek ad : Nat → Nat} {N0 : Nat} {X : va_W} {F : State → Prop} (σ : Mem) (cs : Nat → Nat) (hF : ∀ U, F U → FX ek cs N0 U) (i : Nat) (hi : i < 9) (k : Nat) (hk : k < strL.getD i 0) : MI l yJ1_charAt_3b067 cJ1_charAt_3b067 2 (some .char) 2 D ct ek ad N0 X F [.ref (cs (20 + i)), .int (nI k)] σ (fun r τ => r = chB i k ∧ τ = σ) := by
  refine ms0 (own := RJ1) (by decide) rfl (Nat.le_of_ble_eq_true rfl) (fun p e s m args below meth c S hr hlocks hnm G hP hS ls hl => ?_)
  have hx := S.1
  have hb := S.2.1
  replace hl : lv_has ls 2 [(0, .ref (cs (20 + i))), (1, .int (nI k))] := hl
  have FC := hF s G.2.2.2.2.2
  have hk8 := strL_lt hi hk
  refine lv_iload_n hx hb dJ1_charAt_3b067_0 rfl (lv_at hl 1 rfl) ?_
  refine lv_aload_n hx hb dJ1_charAt_3b067_1 rfl (lv_at hl 0 rfl) ?_
  refine va_tlen (A := fr N0) (v := nI (strL.getD i 0)) hx hb (FC.str.1 i hi).2.2.2 hS rfl dJ1_charAt_3b067_2 ?_
  refine cSve (As := [.int (nI k), .int (nI (strL.getD i 0))]) S G (c_J0_checkIndex_df160 l (D := D) (ct := ct) (ek := ek) (ad := ad) (N0 := N0) (X := X) (F := F) σ cs (by first | assumption | omega | (simp [sg_at]; assumption) | (simp [sg_at]; done)) k (strL.getD i 0) (by omega) (strL_le hi)) ok_yJ0_checkIndex_df160 ml_RJ1_9 hP hS hl.1 rfl (by decide) rfl rfl (Nat.le_of_ble_eq_true rfl) ⟨Nat.zero_le _, Nat.zero_le _⟩ dJ1_charAt_3b067_3 (fun H locs hP hS => ?_)
  refine lv_aload_n hx hb dJ1_charAt_3b067_6 rfl (lv_at hl 0 rfl) ?_
  refine lv_iload_n hx hb dJ1_charAt_3b067_7 rfl (lv_at hl 1 rfl) ?_
  refine kbld (A := fr N0) (f := fun j => (strB.getD i []).getD j 0) hx hb (FC.str.1 i hi).2.2.2 hS k rfl (by omega) (strL_le hi) dJ1_charAt_3b067_8 ?_
  refine lv_sipush (v := 255) hx hb dJ1_charAt_3b067_9 (by decide) ?_
  refine lv_iand hx hb dJ1_charAt_3b067_12 ?_
  refine lv_i2c (v := (((chB i k) &&& 255).toUInt32 % 65536).toInt32) hx hb dJ1_charAt_3b067_13 rfl ?_
  refine lv_tope (y := chB i k) (chB_all i hi k hk8).1 ?_
  exact eZ S hr hlocks hP hS (chB_all i hi k hk8).2 dJ1_charAt_3b067_14 (by first | exact ⟨rfl, rfl⟩ | (refine ⟨?_, rfl⟩; simp []; done) | (simp []; done) | (simp only [↓reduceIte, if_true, if_false, and_self, true_and]; done) | grind [])

theorem ok_yJ0_charAt_5068e : COK RJ0 yJ0_charAt_5068e cJ0_charAt_5068e 2 (some .char) 1 := ⟨im_yJ0_charAt_5068e, se_RJ0_yJ0_charAt_5068e, in_RJ0, co_yJ0_charAt_5068e, ⟨rfl, by decide +kernel, by decide +kernel, by decide +kernel⟩, by decide⟩
set_option maxHeartbeats 1000000 in
set_option maxRecDepth 100000 in
theorem c_J0_charAt_5068e (l : Launch) {D : va_G} {ct : Nat → ClassId} {ek ad : Nat → Nat} {N0 : Nat} {X : va_W} {F : State → Prop} (σ : Mem) (cs : Nat → Nat) (hF : ∀ U, F U → FX ek cs N0 U) (i : Nat) (hi : i < 9) (k : Nat) (hk : k < strL.getD i 0) : MI l yJ0_charAt_5068e cJ0_charAt_5068e 2 (some .char) 3 D ct ek ad N0 X F [.ref (cs i), .int (nI k)] σ (fun r τ => r = chB i k ∧ τ = σ) := by
  refine ms0 (own := RJ0) (by decide) rfl (Nat.le_of_ble_eq_true rfl) (fun p e s m args below meth c S hr hlocks hnm G hP hS ls hl => ?_)
  have hx := S.1
  have hb := S.2.1
  replace hl : lv_has ls 2 [(0, .ref (cs i)), (1, .int (nI k))] := hl
  have FC := hF s G.2.2.2.2.2
  have hk8 := strL_lt hi hk
  refine lv_aload_n hx hb dJ0_charAt_5068e_0 rfl (lv_at hl 0 rfl) ?_
  refine cKie (As := []) S G (c_J0_isLatin1_aae02 l (D := D) (ct := ct) (ek := ek) (ad := ad) (N0 := N0) (X := X) (F := F) σ cs (by first | assumption | omega | (simp [sg_at]; assumption) | (simp [sg_at]; done)) i hi) ok_yJ0_isLatin1_aae02 ml_RJ0_492 (vk_recv FC.str hi hS) hP hS hl.1 rfl (by decide) rfl rfl (Nat.le_of_ble_eq_true rfl) ⟨Nat.zero_le _, Nat.zero_le _⟩ dJ0_charAt_5068e_1 (fun H locs hP hS => ?_)
  refine lv_if_eq (tgt := 16) hx hb dJ0_charAt_5068e_4 (by decide) (fun c_4 => absurd c_4 (by decide)) (fun c_4 => ?_)
  refine lv_aload_n hx hb dJ0_charAt_5068e_7 rfl (lv_at hl 0 rfl) ?_
  refine vk_getf (A := fr N0) hx hb (FC.str.1 i hi).2.2.1 hS S.2.2.2.1 (S.2.2.2.2 _ fl_RJ0_9) (fun _ h => h) dJ0_charAt_5068e_8 ?_
  refine lv_iload_n hx hb dJ0_charAt_5068e_11 rfl (lv_at hl 1 rfl) ?_
  refine cSie (As := [.ref (cs (20 + i)), .int (nI k)]) S G (c_J1_charAt_3b067 l (D := D) (ct := ct) (ek := ek) (ad := ad) (N0 := N0) (X := X) (F := F) σ cs (by first | assumption | omega | (simp [sg_at]; assumption) | (simp [sg_at]; done)) i hi k (by omega)) ok_yJ1_charAt_3b067 ml_RJ0_495 hP hS hl.1 rfl (by decide) rfl rfl (Nat.le_of_ble_eq_true rfl) ⟨Nat.zero_le _, Nat.zero_le _⟩ dJ0_charAt_5068e_12 (fun H locs hP hS => ?_)
  exact eZ S hr hlocks hP hS (chB_all i hi k hk8).2 dJ0_charAt_5068e_15 (by first | exact ⟨rfl, rfl⟩ | (refine ⟨?_, rfl⟩; simp [c_4]; done) | (simp [c_4]; done) | (simp only [c_4, ↓reduceIte, if_true, if_false, and_self, true_and]; done) | grind [])

theorem ok_yJ1_canEncode_9a6ad : COKs RJ1 yJ1_canEncode_9a6ad cJ1_canEncode_9a6ad 1 (some .boolean) 1 := ⟨sm_yJ1_canEncode_9a6ad, in_RJ1, co_yJ1_canEncode_9a6ad, ⟨rfl, by decide +kernel, by decide +kernel, by decide +kernel⟩, by decide⟩
set_option maxHeartbeats 1000000 in
set_option maxRecDepth 100000 in
theorem c_J1_canEncode_9a6ad (l : Launch) {D : va_G} {ct : Nat → ClassId} {ek ad : Nat → Nat} {N0 : Nat} {X : va_W} {F : State → Prop} (σ : Mem) (x : Int32) : MI l yJ1_canEncode_9a6ad cJ1_canEncode_9a6ad 1 (some .boolean) 0 D ct ek ad N0 X F [.int x] σ (fun r τ => r = (if x < 0 then 0 else if 255 < x then 0 else 1) ∧ τ = σ) := by
  refine ms0 (own := RJ1) (by decide) rfl (Nat.le_of_ble_eq_true rfl) (fun p e s m args below meth c S hr hlocks hnm G hP hS ls hl => ?_)
  have hx := S.1
  have hb := S.2.1
  replace hl : lv_has ls 1 [(0, .int x)] := hl
  refine lv_iload_n hx hb dJ1_canEncode_9a6ad_0 rfl (lv_at hl 0 rfl) ?_
  refine lv_if_lt (tgt := 15) hx hb dJ1_canEncode_9a6ad_1 (by decide) (fun c_1 => ?_) (fun c_1 => ?_)
  · refine lv_iconst (v := 0) hx hb dJ1_canEncode_9a6ad_15 (by decide) ?_
    exact eZ S hr hlocks hP hS (by decide) dJ1_canEncode_9a6ad_16 (by first | exact ⟨rfl, rfl⟩ | (refine ⟨?_, rfl⟩; simp [c_1]; done) | (simp [c_1]; done) | (simp only [c_1, ↓reduceIte, if_true, if_false, and_self, true_and]; done) | grind [])
  · refine lv_iload_n hx hb dJ1_canEncode_9a6ad_4 rfl (lv_at hl 0 rfl) ?_
    refine lv_sipush (v := 255) hx hb dJ1_canEncode_9a6ad_5 (by decide) ?_
    refine lv_icmp_gt (tgt := 15) hx hb dJ1_canEncode_9a6ad_8 (by decide) (fun c_8 => ?_) (fun c_8 => ?_)
    · refine lv_iconst (v := 0) hx hb dJ1_canEncode_9a6ad_15 (by decide) ?_
      exact eZ S hr hlocks hP hS (by decide) dJ1_canEncode_9a6ad_16 (by first | exact ⟨rfl, rfl⟩ | (refine ⟨?_, rfl⟩; simp [c_1, c_8]; done) | (simp [c_1, c_8]; done) | (simp only [c_1, c_8, ↓reduceIte, if_true, if_false, and_self, true_and]; done) | grind [])
    · refine lv_iconst (v := 1) hx hb dJ1_canEncode_9a6ad_11 (by decide) ?_
      refine lv_goto (tgt := 16) hx hb dJ1_canEncode_9a6ad_12 (by decide) ?_
      exact eZ S hr hlocks hP hS (by decide) dJ1_canEncode_9a6ad_16 (by first | exact ⟨rfl, rfl⟩ | (refine ⟨?_, rfl⟩; simp [c_1, c_8]; done) | (simp [c_1, c_8]; done) | (simp only [c_1, c_8, ↓reduceIte, if_true, if_false, and_self, true_and]; done) | grind [])

theorem ok_yJ1_indexOfChar_4cfef : COKs RJ1 yJ1_indexOfChar_4cfef cJ1_indexOfChar_4cfef 6 (some .int) 4 := ⟨sm_yJ1_indexOfChar_4cfef, in_RJ1, co_yJ1_indexOfChar_4cfef, ⟨rfl, by decide +kernel, by decide +kernel, by decide +kernel⟩, by decide⟩
set_option maxHeartbeats 1000000 in
set_option maxRecDepth 100000 in
theorem c_J1_indexOfChar_4cfef (l : Launch) {D : va_G} {ct : Nat → ClassId} {ek ad : Nat → Nat} {N0 : Nat} {X : va_W} {F : State → Prop} (σ : Mem) (cs : Nat → Nat) (hF : ∀ U, F U → FX ek cs N0 U) (x : Int32) (h8 : 8 < 9) : MI l yJ1_indexOfChar_4cfef cJ1_indexOfChar_4cfef 6 (some .int) 0 D ct ek ad N0 X F [.ref (cs (20 + 8)), .int x, .int 0, .int 8] σ (fun r τ => r = ixC x ∧ τ = σ) := by
  refine ms0 (own := RJ1) (by decide) rfl (Nat.le_of_ble_eq_true rfl) (fun p e s m args below meth c S hr hlocks hnm G hP hS ls hl => ?_)
  have hx := S.1
  have hb := S.2.1
  replace hl : lv_has ls 6 [(0, .ref (cs (20 + 8))), (1, .int x), (2, .int 0), (3, .int 8)] := hl
  have FC := hF s G.2.2.2.2.2
  refine lv_iload_n hx hb dJ1_indexOfChar_4cfef_0 rfl (lv_at hl 1 rfl) ?_
  refine lv_i2b (v := x.toInt8.toInt32) hx hb dJ1_indexOfChar_4cfef_1 rfl ?_
  refine lv_tope (y := ixB x) rfl ?_
  refine lv_istore (lv' := [(4, .int (ixB x)), (0, .ref (cs (20 + 8))), (1, .int x), (2, .int 0), (3, .int 8)]) hx hb dJ1_indexOfChar_4cfef_2 hl (by decide) rfl (fun ls hl => ?_)
  refine lv_iload_n hx hb dJ1_indexOfChar_4cfef_4 rfl (lv_at hl 3 rfl) ?_
  refine lv_istore (lv' := [(5, .int 0), (4, .int (ixB x)), (0, .ref (cs (20 + 8))), (1, .int x), (2, .int 0), (3, .int 8)]) hx hb dJ1_indexOfChar_4cfef_5 hl (by decide) rfl (fun ls hl => ?_)
  have key_7 : ∀ (d k : Nat), k + d = 8 → (ixC x = srch (fun k => if chB 8 k = ixB x then 1 else 0) 1 d k) → ∀ (H : Heap) (locs : List Loc) (ls : Array Slot), wP D ct ek ad X σ H → va_S (fr N0) s.heap H locs → lv_has ls 6 [(5, .int (nI k)), (4, .int (ixB x)), (0, .ref (cs (20 + 8))), (1, .int x), (2, .int 0), (3, .int 8)] → W p l e (rmd 0 0 0) s m args below meth c H locs 0 0 (MQ below (wQi D ct ek ad N0 X (fun r τ => r = ixC x ∧ τ = σ)) args s 0 0 (fr N0)) (F0 m 7 ls []) := by
    intro d
    induction d with
    | zero =>
      intro k9 hk
      obtain rfl : 8 = k9 := by omega
      intro hs H locs ls hP hS hl
      refine lv_iload hx hb dJ1_indexOfChar_4cfef_7 (lv_at hl 0 rfl) ?_
      refine lv_iload_n hx hb dJ1_indexOfChar_4cfef_9 rfl (lv_at hl 5 rfl) ?_
      refine lv_icmp_ge (tgt := 31) hx hb dJ1_indexOfChar_4cfef_10 (by decide) (fun c_10 => ?_) (fun c_10 => absurd (by decide) c_10)
      refine lv_iconst (v := (-1)) hx hb dJ1_indexOfChar_4cfef_31 (by decide) ?_
      exact eI S hr hlocks hP hS dJ1_indexOfChar_4cfef_32 ⟨hs.symm, rfl⟩
    | succ d ih =>
      intro k hk hs H locs ls hP hS hl
      have hkn : k < 8 := by omega
      refine lv_iload hx hb dJ1_indexOfChar_4cfef_7 (lv_at hl 0 rfl) ?_
      refine lv_iload_n hx hb dJ1_indexOfChar_4cfef_9 rfl (lv_at hl 5 rfl) ?_
      refine lv_icmp_ge (tgt := 31) hx hb dJ1_indexOfChar_4cfef_10 (by decide) (fun c_10 => absurd c_10 (nI_ge (b := 8) (by omega) (by omega))) (fun c_10 => ?_)
      refine lv_aload_n hx hb dJ1_indexOfChar_4cfef_13 rfl (lv_at hl 2 rfl) ?_
      refine lv_iload hx hb dJ1_indexOfChar_4cfef_14 (lv_at hl 0 rfl) ?_
      refine kbld (A := fr N0) (f := fun j => (strB.getD 8 []).getD j 0) hx hb (FC.str.1 8 h8).2.2.2 hS k rfl (show k < 8 by omega) (strL_le h8) dJ1_indexOfChar_4cfef_16 ?_
      refine lv_tope (y := chB 8 k) rfl ?_
      refine lv_iload hx hb dJ1_indexOfChar_4cfef_17 (lv_at hl 1 rfl) ?_
      refine lv_icmp_ne (tgt := 25) hx hb dJ1_indexOfChar_4cfef_19 (by decide) (fun c_19 => ?_) (fun c_19 => ?_)
      · refine lv_iinc (v := nI (k + 1)) (lv' := [(5, .int (nI (k + 1))), (4, .int (ixB x)), (0, .ref (cs (20 + 8))), (1, .int x), (2, .int 0), (3, .int 8)]) hx hb dJ1_indexOfChar_4cfef_25 hl (k := 0) rfl (nI_inc _) (by decide) rfl (fun ls hl => ?_)
        refine lv_goto (tgt := 7) hx hb dJ1_indexOfChar_4cfef_28 (by decide) ?_
        exact ih (k + 1) (by omega) (by rw [hs]; exact if_neg (show ¬ (if chB 8 k = ixB x then (1 : Int32) else 0) = 1 from by rw [if_neg c_19]; decide)) _ _ _ hP hS (by first | (refine lv_v (lv_sub (l' := [(5, .int (nI (k + 1))), (4, .int (ixB x)), (0, .ref (cs (20 + 8))), (1, .int x), (2, .int 0), (3, .int 8)]) hl [0, 1, 2, 3, 4, 5] rfl) ?_; simp [fo, c_10, c_19]; done) | exact lv_sub hl [0, 1, 2, 3, 4, 5] rfl)
      · refine lv_iload hx hb dJ1_indexOfChar_4cfef_22 (lv_at hl 0 rfl) ?_
        exact eI S hr hlocks hP hS dJ1_indexOfChar_4cfef_24 ⟨by rw [hs]; exact (if_pos (show (if chB 8 k = ixB x then (1 : Int32) else 0) = 1 from if_pos c_19)).symm, rfl⟩
  exact key_7 8 0 (by omega) rfl _ _ _ hP hS (lv_sub hl [0, 1, 2, 3, 4, 5] rfl)

theorem ok_yJ1_indexOf_4cfef : COKs RJ1 yJ1_indexOf_4cfef cJ1_indexOf_4cfef 4 (some .int) 4 := ⟨sm_yJ1_indexOf_4cfef, in_RJ1, co_yJ1_indexOf_4cfef, ⟨rfl, by decide +kernel, by decide +kernel, by decide +kernel⟩, by decide⟩
set_option maxHeartbeats 1000000 in
set_option maxRecDepth 100000 in
theorem c_J1_indexOf_4cfef (l : Launch) {D : va_G} {ct : Nat → ClassId} {ek ad : Nat → Nat} {N0 : Nat} {X : va_W} {F : State → Prop} (σ : Mem) (cs : Nat → Nat) (hF : ∀ U, F U → FX ek cs N0 U) (x : Int32) (h8 : 8 < 9) : MI l yJ1_indexOf_4cfef cJ1_indexOf_4cfef 4 (some .int) 1 D ct ek ad N0 X F [.ref (cs (20 + 8)), .int x, .int 0, .int 8] σ (fun r τ => r = ixV x ∧ τ = σ) := by
  refine ms0 (own := RJ1) (by decide) rfl (Nat.le_of_ble_eq_true rfl) (fun p e s m args below meth c S hr hlocks hnm G hP hS ls hl => ?_)
  have hx := S.1
  have hb := S.2.1
  replace hl : lv_has ls 4 [(0, .ref (cs (20 + 8))), (1, .int x), (2, .int 0), (3, .int 8)] := hl
  have FC := hF s G.2.2.2.2.2
  refine lv_iload_n hx hb dJ1_indexOf_4cfef_0 rfl (lv_at hl 1 rfl) ?_
  refine cSie (As := [.int x]) S G (c_J1_canEncode_9a6ad l (D := D) (ct := ct) (ek := ek) (ad := ad) (N0 := N0) (X := X) (F := F) σ x) ok_yJ1_canEncode_9a6ad ml_RJ1_88 hP hS hl.1 rfl (by decide) rfl rfl (Nat.le_of_ble_eq_true rfl) ⟨Nat.zero_le _, Nat.zero_le _⟩ dJ1_indexOf_4cfef_1 (fun H locs hP hS => ?_)
  refine lv_if_ne (tgt := 9) hx hb dJ1_indexOf_4cfef_4 (by decide) (fun c_4 => ?_) (fun c_4 => ?_)
  · refine lv_iload_n hx hb dJ1_indexOf_4cfef_9 rfl (lv_at hl 2 rfl) ?_
    refine lv_iconst (v := 0) hx hb dJ1_indexOf_4cfef_10 (by decide) ?_
    refine rmax S rfl (by decide) hl.1 ml_RJ1_92 (Nat.le_of_ble_eq_true rfl) ⟨Nat.zero_le _, Nat.zero_le _⟩ dJ1_indexOf_4cfef_11 ?_
    refine lv_tope (y := 0) (by decide) ?_
    refine lv_istore_n (lv' := [(2, .int 0), (0, .ref (cs (20 + 8))), (1, .int x), (3, .int 8)]) hx hb dJ1_indexOf_4cfef_14 rfl hl (by decide) rfl (fun ls hl => ?_)
    refine lv_iload_n hx hb dJ1_indexOf_4cfef_15 rfl (lv_at hl 3 rfl) ?_
    refine lv_aload_n hx hb dJ1_indexOf_4cfef_16 rfl (lv_at hl 1 rfl) ?_
    refine va_tlen (A := fr N0) (v := nI (strL.getD 8 0)) hx hb (FC.str.1 8 h8).2.2.2 hS rfl dJ1_indexOf_4cfef_17 ?_
    refine rmin S rfl (by decide) hl.1 ml_RJ1_38 (Nat.le_of_ble_eq_true rfl) ⟨Nat.zero_le _, Nat.zero_le _⟩ dJ1_indexOf_4cfef_18 ?_
    refine lv_tope (y := 8) (by decide) ?_
    refine lv_istore_n (lv' := [(3, .int 8), (2, .int 0), (0, .ref (cs (20 + 8))), (1, .int x)]) hx hb dJ1_indexOf_4cfef_21 rfl hl (by decide) rfl (fun ls hl => ?_)
    refine lv_iload_n hx hb dJ1_indexOf_4cfef_22 rfl (lv_at hl 1 rfl) ?_
    refine lv_iload_n hx hb dJ1_indexOf_4cfef_23 rfl (lv_at hl 0 rfl) ?_
    refine lv_icmp_lt (tgt := 29) hx hb dJ1_indexOf_4cfef_24 (by decide) (fun c_24 => ?_) (fun c_24 => absurd (by decide) c_24)
    refine lv_aload_n hx hb dJ1_indexOf_4cfef_29 rfl (lv_at hl 2 rfl) ?_
    refine lv_iload_n hx hb dJ1_indexOf_4cfef_30 rfl (lv_at hl 3 rfl) ?_
    refine lv_iload_n hx hb dJ1_indexOf_4cfef_31 rfl (lv_at hl 1 rfl) ?_
    refine lv_iload_n hx hb dJ1_indexOf_4cfef_32 rfl (lv_at hl 0 rfl) ?_
    refine cSie (As := [.ref (cs (20 + 8)), .int x, .int 0, .int 8]) S G (c_J1_indexOfChar_4cfef l (D := D) (ct := ct) (ek := ek) (ad := ad) (N0 := N0) (X := X) (F := F) σ cs (by first | assumption | omega | (simp [sg_at]; assumption) | (simp [sg_at]; done)) x h8) ok_yJ1_indexOfChar_4cfef ml_RJ1_95 hP hS hl.1 rfl (by decide) rfl rfl (Nat.le_of_ble_eq_true rfl) ⟨Nat.zero_le _, Nat.zero_le _⟩ dJ1_indexOf_4cfef_33 (fun H locs hP hS => ?_)
    exact eI S hr hlocks hP hS dJ1_indexOf_4cfef_36 ⟨ixV_1 c_4, rfl⟩
  · refine lv_iconst (v := (-1)) hx hb dJ1_indexOf_4cfef_7 (by decide) ?_
    exact eI S hr hlocks hP hS dJ1_indexOf_4cfef_8 ⟨ixV_0 c_4, rfl⟩

theorem ok_yJ0_indexOf_7cf53 : COK RJ0 yJ0_indexOf_7cf53 cJ0_indexOf_7cf53 3 (some .int) 2 := ⟨im_yJ0_indexOf_7cf53, se_RJ0_yJ0_indexOf_7cf53, in_RJ0, co_yJ0_indexOf_7cf53, ⟨rfl, by decide +kernel, by decide +kernel, by decide +kernel⟩, by decide⟩
set_option maxHeartbeats 1000000 in
set_option maxRecDepth 100000 in
theorem c_J0_indexOf_7cf53 (l : Launch) {D : va_G} {ct : Nat → ClassId} {ek ad : Nat → Nat} {N0 : Nat} {X : va_W} {F : State → Prop} (σ : Mem) (cs : Nat → Nat) (hF : ∀ U, F U → FX ek cs N0 U) (x : Int32) (h8 : 8 < 9) : MI l yJ0_indexOf_7cf53 cJ0_indexOf_7cf53 3 (some .int) 2 D ct ek ad N0 X F [.ref (cs 8), .int x, .int 0] σ (fun r τ => r = ixV x ∧ τ = σ) := by
  refine ms0 (own := RJ0) (by decide) rfl (Nat.le_of_ble_eq_true rfl) (fun p e s m args below meth c S hr hlocks hnm G hP hS ls hl => ?_)
  have hx := S.1
  have hb := S.2.1
  replace hl : lv_has ls 3 [(0, .ref (cs 8)), (1, .int x), (2, .int 0)] := hl
  have FC := hF s G.2.2.2.2.2
  refine lv_aload_n hx hb dJ0_indexOf_7cf53_0 rfl (lv_at hl 0 rfl) ?_
  refine cKie (As := []) S G (c_J0_isLatin1_aae02 l (D := D) (ct := ct) (ek := ek) (ad := ad) (N0 := N0) (X := X) (F := F) σ cs (by first | assumption | omega | (simp [sg_at]; assumption) | (simp [sg_at]; done)) 8 h8) ok_yJ0_isLatin1_aae02 ml_RJ0_492 (vk_recv FC.str h8 hS) hP hS hl.1 rfl (by decide) rfl rfl (Nat.le_of_ble_eq_true rfl) ⟨Nat.zero_le _, Nat.zero_le _⟩ dJ0_indexOf_7cf53_1 (fun H locs hP hS => ?_)
  refine lv_if_eq (tgt := 23) hx hb dJ0_indexOf_7cf53_4 (by decide) (fun c_4 => absurd c_4 (by decide)) (fun c_4 => ?_)
  refine lv_aload_n hx hb dJ0_indexOf_7cf53_7 rfl (lv_at hl 0 rfl) ?_
  refine vk_getf (A := fr N0) hx hb (FC.str.1 8 h8).2.2.1 hS S.2.2.2.1 (S.2.2.2.2 _ fl_RJ0_9) (fun _ h => h) dJ0_indexOf_7cf53_8 ?_
  refine lv_iload_n hx hb dJ0_indexOf_7cf53_11 rfl (lv_at hl 1 rfl) ?_
  refine lv_iload_n hx hb dJ0_indexOf_7cf53_12 rfl (lv_at hl 2 rfl) ?_
  refine lv_aload_n hx hb dJ0_indexOf_7cf53_13 rfl (lv_at hl 0 rfl) ?_
  refine cKie (As := []) S G (c_J0_length_8abf5 l (D := D) (ct := ct) (ek := ek) (ad := ad) (N0 := N0) (X := X) (F := F) σ cs (by first | assumption | omega | (simp [sg_at]; assumption) | (simp [sg_at]; done)) 8 h8) ok_yJ0_length_8abf5 ml_RJ0_505 (vk_recv FC.str h8 hS) hP hS hl.1 rfl (by decide) rfl rfl (Nat.le_of_ble_eq_true rfl) ⟨Nat.zero_le _, Nat.zero_le _⟩ dJ0_indexOf_7cf53_14 (fun H locs hP hS => ?_)
  refine lv_tope (y := 8) rfl ?_
  refine cSie (As := [.ref (cs (20 + 8)), .int x, .int 0, .int 8]) S G (c_J1_indexOf_4cfef l (D := D) (ct := ct) (ek := ek) (ad := ad) (N0 := N0) (X := X) (F := F) σ cs (by first | assumption | omega | (simp [sg_at]; assumption) | (simp [sg_at]; done)) x h8) ok_yJ1_indexOf_4cfef ml_RJ0_637 hP hS hl.1 rfl (by decide) rfl rfl (Nat.le_of_ble_eq_true rfl) ⟨Nat.zero_le _, Nat.zero_le _⟩ dJ0_indexOf_7cf53_17 (fun H locs hP hS => ?_)
  refine lv_goto (tgt := 36) hx hb dJ0_indexOf_7cf53_20 (by decide) ?_
  exact eI S hr hlocks hP hS dJ0_indexOf_7cf53_36 (by first | exact ⟨rfl, rfl⟩ | (refine ⟨?_, rfl⟩; simp [c_4]; done) | (simp [c_4]; done) | (simp only [c_4, ↓reduceIte, if_true, if_false, and_self, true_and]; done) | grind [])

theorem ok_yJ0_indexOf_0f7a4 : COK RJ0 yJ0_indexOf_0f7a4 cJ0_indexOf_0f7a4 2 (some .int) 1 := ⟨im_yJ0_indexOf_0f7a4, se_RJ0_yJ0_indexOf_0f7a4, in_RJ0, co_yJ0_indexOf_0f7a4, ⟨rfl, by decide +kernel, by decide +kernel, by decide +kernel⟩, by decide⟩
set_option maxHeartbeats 1000000 in
set_option maxRecDepth 100000 in
theorem c_J0_indexOf_0f7a4 (l : Launch) {D : va_G} {ct : Nat → ClassId} {ek ad : Nat → Nat} {N0 : Nat} {X : va_W} {F : State → Prop} (σ : Mem) (cs : Nat → Nat) (hF : ∀ U, F U → FX ek cs N0 U) (x : Int32) (h8 : 8 < 9) : MI l yJ0_indexOf_0f7a4 cJ0_indexOf_0f7a4 2 (some .int) 3 D ct ek ad N0 X F [.ref (cs 8), .int x] σ (fun r τ => r = ixV x ∧ τ = σ) := by
  refine ms0 (own := RJ0) (by decide) rfl (Nat.le_of_ble_eq_true rfl) (fun p e s m args below meth c S hr hlocks hnm G hP hS ls hl => ?_)
  have hx := S.1
  have hb := S.2.1
  replace hl : lv_has ls 2 [(0, .ref (cs 8)), (1, .int x)] := hl
  have FC := hF s G.2.2.2.2.2
  refine lv_aload_n hx hb dJ0_indexOf_0f7a4_0 rfl (lv_at hl 0 rfl) ?_
  refine lv_iload_n hx hb dJ0_indexOf_0f7a4_1 rfl (lv_at hl 1 rfl) ?_
  refine lv_iconst (v := 0) hx hb dJ0_indexOf_0f7a4_2 (by decide) ?_
  refine cKie (As := [.int x, .int 0]) S G (c_J0_indexOf_7cf53 l (D := D) (ct := ct) (ek := ek) (ad := ad) (N0 := N0) (X := X) (F := F) σ cs (by first | assumption | omega | (simp [sg_at]; assumption) | (simp [sg_at]; done)) x h8) ok_yJ0_indexOf_7cf53 ml_RJ0_633 (vk_recv FC.str h8 hS) hP hS hl.1 rfl (by decide) rfl rfl (Nat.le_of_ble_eq_true rfl) ⟨Nat.zero_le _, Nat.zero_le _⟩ dJ0_indexOf_0f7a4_3 (fun H locs hP hS => ?_)
  exact eI S hr hlocks hP hS dJ0_indexOf_0f7a4_6 (by first | exact ⟨rfl, rfl⟩ | (refine ⟨?_, rfl⟩; simp []; done) | (simp []; done) | (simp only [↓reduceIte, if_true, if_false, and_self, true_and]; done) | grind [])

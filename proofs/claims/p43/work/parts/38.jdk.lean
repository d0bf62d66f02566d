/-! the JDK's methods over the constant texts (laid by wip/p43/spec_jdk.py) -/
theorem ok_yJ0_isLatin1_aae02 : COK RJ0 yJ0_isLatin1_aae02 cJ0_isLatin1_aae02 1 (some .boolean) 0 := ⟨im_yJ0_isLatin1_aae02, se_RJ0_yJ0_isLatin1_aae02, in_RJ0, co_yJ0_isLatin1_aae02, ⟨rfl, by decide +kernel, by decide +kernel, by decide +kernel⟩, by decide⟩
set_option maxHeartbeats 1000000 in
set_option maxRecDepth 100000 in
theorem c_J0_isLatin1_aae02 (l : Launch) {D : va_G} {ct : Nat → ClassId} {ek ad : Nat → Nat} {N0 : Nat} {X : va_W} {F : State → Prop} (σ : Mem) (cs : Nat → Nat) (hF : ∀ U, F U → FX ek cs N0 U) (i : Nat) (hi : i < 14) : MI l yJ0_isLatin1_aae02 cJ0_isLatin1_aae02 1 (some .boolean) 0 D ct ek ad N0 X F [.ref (cs i)] σ (fun r τ => r = 1 ∧ τ = σ) := by
  refine ms0 (own := RJ0) (by decide) rfl (Nat.le_of_ble_eq_true rfl) (fun p e s m args below meth c S hr hlocks hnm G hP hS ls hl => ?_)
  have hx := S.1
  have hb := S.2.1
  replace hl : lv_has ls 1 [(0, .ref (cs i))] := hl
  have FC := hF s G.2.2.2.2.2
  refine va_gets (A := fr N0) hx hb FC.comp hS S.2.2.2.1 (S.2.2.2.2 _ fl_RJ0_38) (fun _ h => h) dJ0_isLatin1_aae02_0 ?_
  refine lv_if_eq (tgt := 17) hx hb dJ0_isLatin1_aae02_3 (by decide) (fun c_3 => absurd c_3 (by decide)) (fun c_3 => ?_)
  refine lv_aload_n hx hb dJ0_isLatin1_aae02_6 rfl (lv_at hl 0 rfl) ?_
  refine vk_getf (A := fr N0) hx hb (FC.str.1 i hi).2.1 hS S.2.2.2.1 (S.2.2.2.2 _ fl_RJ0_15) (fun _ h => h) dJ0_isLatin1_aae02_7 ?_
  refine lv_if_ne (tgt := 17) hx hb dJ0_isLatin1_aae02_10 (by decide) (fun c_10 => absurd rfl c_10) (fun c_10 => ?_)
  refine lv_iconst (v := 1) hx hb dJ0_isLatin1_aae02_13 (by decide) ?_
  refine lv_goto (tgt := 18) hx hb dJ0_isLatin1_aae02_14 (by decide) ?_
  exact eZ S hr hlocks hP hS (by decide) dJ0_isLatin1_aae02_18 (by first | exact ⟨rfl, rfl⟩ | (refine ⟨?_, rfl⟩; simp [c_3, c_10]; done) | (simp [c_3, c_10]; done) | (simp only [c_3, c_10, ↓reduceIte, if_true, if_false, and_self, true_and]; done) | grind [])

theorem ok_yJ0_coder_7d493 : COK RJ0 yJ0_coder_7d493 cJ0_coder_7d493 1 (some .byte) 0 := ⟨im_yJ0_coder_7d493, se_RJ0_yJ0_coder_7d493, in_RJ0, co_yJ0_coder_7d493, ⟨rfl, by decide +kernel, by decide +kernel, by decide +kernel⟩, by decide⟩
set_option maxHeartbeats 1000000 in
set_option maxRecDepth 100000 in
theorem c_J0_coder_7d493 (l : Launch) {D : va_G} {ct : Nat → ClassId} {ek ad : Nat → Nat} {N0 : Nat} {X : va_W} {F : State → Prop} (σ : Mem) (cs : Nat → Nat) (hF : ∀ U, F U → FX ek cs N0 U) (i : Nat) (hi : i < 14) : MI l yJ0_coder_7d493 cJ0_coder_7d493 1 (some .byte) 0 D ct ek ad N0 X F [.ref (cs i)] σ (fun r τ => r = 0 ∧ τ = σ) := by
  refine ms0 (own := RJ0) (by decide) rfl (Nat.le_of_ble_eq_true rfl) (fun p e s m args below meth c S hr hlocks hnm G hP hS ls hl => ?_)
  have hx := S.1
  have hb := S.2.1
  replace hl : lv_has ls 1 [(0, .ref (cs i))] := hl
  have FC := hF s G.2.2.2.2.2
  refine va_gets (A := fr N0) hx hb FC.comp hS S.2.2.2.1 (S.2.2.2.2 _ fl_RJ0_38) (fun _ h => h) dJ0_coder_7d493_0 ?_
  refine lv_if_eq (tgt := 13) hx hb dJ0_coder_7d493_3 (by decide) (fun c_3 => absurd c_3 (by decide)) (fun c_3 => ?_)
  refine lv_aload_n hx hb dJ0_coder_7d493_6 rfl (lv_at hl 0 rfl) ?_
  refine vk_getf (A := fr N0) hx hb (FC.str.1 i hi).2.1 hS S.2.2.2.1 (S.2.2.2.2 _ fl_RJ0_15) (fun _ h => h) dJ0_coder_7d493_7 ?_
  refine lv_goto (tgt := 14) hx hb dJ0_coder_7d493_10 (by decide) ?_
  exact eZ S hr hlocks hP hS (by decide) dJ0_coder_7d493_14 (by first | exact ⟨rfl, rfl⟩ | (refine ⟨?_, rfl⟩; simp [c_3]; done) | (simp [c_3]; done) | (simp only [c_3, ↓reduceIte, if_true, if_false, and_self, true_and]; done) | grind [])

theorem ok_yJ0_length_8abf5 : COK RJ0 yJ0_length_8abf5 cJ0_length_8abf5 1 (some .int) 0 := ⟨im_yJ0_length_8abf5, se_RJ0_yJ0_length_8abf5, in_RJ0, co_yJ0_length_8abf5, ⟨rfl, by decide +kernel, by decide +kernel, by decide +kernel⟩, by decide⟩
set_option maxHeartbeats 1000000 in
set_option maxRecDepth 100000 in
theorem c_J0_length_8abf5 (l : Launch) {D : va_G} {ct : Nat → ClassId} {ek ad : Nat → Nat} {N0 : Nat} {X : va_W} {F : State → Prop} (σ : Mem) (cs : Nat → Nat) (hF : ∀ U, F U → FX ek cs N0 U) (i : Nat) (hi : i < 14) : MI l yJ0_length_8abf5 cJ0_length_8abf5 1 (some .int) 1 D ct ek ad N0 X F [.ref (cs i)] σ (fun r τ => r = nI (strL.getD i 0) ∧ τ = σ) := by
  refine ms0 (own := RJ0) (by decide) rfl (Nat.le_of_ble_eq_true rfl) (fun p e s m args below meth c S hr hlocks hnm G hP hS ls hl => ?_)
  have hx := S.1
  have hb := S.2.1
  replace hl : lv_has ls 1 [(0, .ref (cs i))] := hl
  have FC := hF s G.2.2.2.2.2
  refine lv_aload_n hx hb dJ0_length_8abf5_0 rfl (lv_at hl 0 rfl) ?_
  refine vk_getf (A := fr N0) hx hb (FC.str.1 i hi).2.2.1 hS S.2.2.2.1 (S.2.2.2.2 _ fl_RJ0_9) (fun _ h => h) dJ0_length_8abf5_1 ?_
  refine va_tlen (A := fr N0) (v := nI (strL.getD i 0)) hx hb (FC.str.1 i hi).2.2.2 hS rfl dJ0_length_8abf5_4 ?_
  refine lv_aload_n hx hb dJ0_length_8abf5_5 rfl (lv_at hl 0 rfl) ?_
  refine cKie (As := []) S G (c_J0_coder_7d493 l (D := D) (ct := ct) (ek := ek) (ad := ad) (N0 := N0) (X := X) (F := F) σ cs (by first | assumption | omega | (simp [sg_at]; assumption) | (simp [sg_at]; done)) i hi) ok_yJ0_coder_7d493 ml_RJ0_335 (vk_recv FC.str hi hS) hP hS hl.1 rfl (by decide) rfl rfl (Nat.le_of_ble_eq_true rfl) ⟨Nat.zero_le _, Nat.zero_le _⟩ dJ0_length_8abf5_6 (fun H locs hP hS => ?_)
  refine lv_ishr hx hb dJ0_length_8abf5_9 ?_
  refine lv_tope (y := nI (strL.getD i 0)) (sh0 _) ?_
  exact eI S hr hlocks hP hS dJ0_length_8abf5_10 (by first | exact ⟨rfl, rfl⟩ | (refine ⟨?_, rfl⟩; simp []; done) | (simp []; done) | (simp only [↓reduceIte, if_true, if_false, and_self, true_and]; done) | grind [])

theorem ok_yJ3_checkIndex_8e157 : COKs RJ3 yJ3_checkIndex_8e157 cJ3_checkIndex_8e157 3 (some .int) 3 := ⟨sm_yJ3_checkIndex_8e157, in_RJ3, co_yJ3_checkIndex_8e157, ⟨rfl, by decide +kernel, by decide +kernel, by decide +kernel⟩, by decide⟩
set_option maxHeartbeats 1000000 in
set_option maxRecDepth 100000 in
theorem c_J3_checkIndex_8e157 (l : Launch) {D : va_G} {ct : Nat → ClassId} {ek ad : Nat → Nat} {N0 : Nat} {X : va_W} {F : State → Prop} (σ : Mem) (j : Nat) (n : Nat) (v : Value) (hv : v = .null ∨ ∃ t, v = .ref t) (hj : j < n) (hn : n ≤ 1000) : MI l yJ3_checkIndex_8e157 cJ3_checkIndex_8e157 3 (some .int) 0 D ct ek ad N0 X F [.int (nI j), .int (nI n), v] σ (fun r τ => r = nI j ∧ τ = σ) := by
  refine ms0 (own := RJ3) (by decide) rfl (by rcases hv with rfl | ⟨t, rfl⟩ <;> exact Nat.le_refl _) (fun p e s m args below meth c S hr hlocks hnm G hP hS ls hl => ?_)
  have hx := S.1
  have hb := S.2.1
  replace hl : lv_has ls 3 [(0, .int (nI j)), (1, .int (nI n)), (2, v)] := hl
  refine lv_iload_n hx hb dJ3_checkIndex_8e157_0 rfl (lv_at hl 0 rfl) ?_
  refine lv_if_lt (tgt := 9) hx hb dJ3_checkIndex_8e157_1 (by decide) (fun c_1 => absurd c_1 (nI_pos (by omega))) (fun c_1 => ?_)
  refine lv_iload_n hx hb dJ3_checkIndex_8e157_4 rfl (lv_at hl 0 rfl) ?_
  refine lv_iload_n hx hb dJ3_checkIndex_8e157_5 rfl (lv_at hl 1 rfl) ?_
  refine lv_icmp_lt (tgt := 16) hx hb dJ3_checkIndex_8e157_6 (by decide) (fun c_6 => ?_) (fun c_6 => absurd (nI_lt (by omega) (by omega)) c_6)
  refine lv_iload_n hx hb dJ3_checkIndex_8e157_16 rfl (lv_at hl 0 rfl) ?_
  exact eI S hr hlocks hP hS dJ3_checkIndex_8e157_17 (by first | exact ⟨rfl, rfl⟩ | (refine ⟨?_, rfl⟩; simp [c_1, c_6]; done) | (simp [c_1, c_6]; done) | (simp only [c_1, c_6, ↓reduceIte, if_true, if_false, and_self, true_and]; done) | grind [])

theorem ok_yJ0_checkIndex_df160 : COKs RJ0 yJ0_checkIndex_df160 cJ0_checkIndex_df160 2 none 2 := ⟨sm_yJ0_checkIndex_df160, in_RJ0, co_yJ0_checkIndex_df160, ⟨rfl, by decide +kernel, by decide +kernel, by decide +kernel⟩, by decide⟩
set_option maxHeartbeats 1000000 in
set_option maxRecDepth 100000 in
theorem c_J0_checkIndex_df160 (l : Launch) {D : va_G} {ct : Nat → ClassId} {ek ad : Nat → Nat} {N0 : Nat} {X : va_W} {F : State → Prop} (σ : Mem) (cs : Nat → Nat) (hF : ∀ U, F U → FX ek cs N0 U) (j : Nat) (n : Nat) (hj : j < n) (hn : n ≤ 1000) : MV l yJ0_checkIndex_df160 cJ0_checkIndex_df160 2 1 D ct ek ad N0 X F [.int (nI j), .int (nI n)] σ (fun τ => τ = σ) := by
  refine ms0 (own := RJ0) (by decide) rfl (Nat.le_of_ble_eq_true rfl) (fun p e s m args below meth c S hr hlocks hnm G hP hS ls hl => ?_)
  have hx := S.1
  have hb := S.2.1
  replace hl : lv_has ls 2 [(0, .int (nI j)), (1, .int (nI n))] := hl
  have FC := hF s G.2.2.2.2.2
  refine lv_iload_n hx hb dJ0_checkIndex_df160_0 rfl (lv_at hl 0 rfl) ?_
  refine lv_iload_n hx hb dJ0_checkIndex_df160_1 rfl (lv_at hl 1 rfl) ?_
  obtain ⟨v9, hvv9, hv9⟩ := FC.sio
  refine va_gets (A := fr N0) hx hb hv9 hS S.2.2.2.1 (S.2.2.2.2 _ fl_RJ0_1053) (fun _ h => h) dJ0_checkIndex_df160_2 ?_
  refine cSie (As := [.int (nI j), .int (nI n), v9]) S G (c_J3_checkIndex_8e157 l (D := D) (ct := ct) (ek := ek) (ad := ad) (N0 := N0) (X := X) (F := F) σ j n v9 (by first | assumption | omega | (simp [sg_at]; assumption) | (simp [sg_at]; done)) (by omega) (by omega)) ok_yJ3_checkIndex_8e157 ml_RJ0_1059 hP hS hl.1 rfl (by decide) rfl rfl (Nat.le_of_ble_eq_true rfl) ⟨Nat.zero_le _, Nat.zero_le _⟩ dJ0_checkIndex_df160_5 (fun H locs hP hS => ?_)
  refine lv_pop hx hb dJ0_checkIndex_df160_8 rfl ?_
  exact eV S hr hlocks hP hS dJ0_checkIndex_df160_9 (by first | rfl | (simp []; done) | (simp only [↓reduceIte, if_true, if_false]; done) | grind [])

theorem ok_yJ1_charAt_3b067 : COKs RJ1 yJ1_charAt_3b067 cJ1_charAt_3b067 2 (some .char) 2 := ⟨sm_yJ1_charAt_3b067, in_RJ1, co_yJ1_charAt_3b067, ⟨rfl, by decide +kernel, by decide +kernel, by decide +kernel⟩, by decide⟩
set_option maxHeartbeats 1000000 in
set_option maxRecDepth 100000 in
theorem c_J1_charAt_3b067 (l : Launch) {D : va_G} {ct : Nat → ClassId} {ek ad : Nat → Nat} {N0 : Nat} {X : va_W} {F : State → Prop} (σ : Mem) (cs : Nat → Nat) (hF : ∀ U, F U → FX ek cs N0 U) (i : Nat) (hi : i < 14) (k : Nat) (hk : k < strL.getD i 0) : MI l yJ1_charAt_3b067 cJ1_charAt_3b067 2 (some .char) 2 D ct ek ad N0 X F [.ref (cs (20 + i)), .int (nI k)] σ (fun r τ => r = chB i k ∧ τ = σ) := by
  refine ms0 (own := RJ1) (by decide) rfl (Nat.le_of_ble_eq_true rfl) (fun p e s m args below meth c S hr hlocks hnm G hP hS ls hl => ?_)
  have hx := S.1
  have hb := S.2.1
  replace hl : lv_has ls 2 [(0, .ref (cs (20 + i))), (1, .int (nI k))] := hl
  have FC := hF s G.2.2.2.2.2
  have hk8 := strL_lt hi hk
  refine lv_iload_n hx hb dJ1_charAt_3b067_0 rfl (lv_at hl 1 rfl) ?_
  refine lv_aload_n hx hb dJ1_charAt_3b067_1 rfl (lv_at hl 0 rfl) ?_
  refine va_tlen (A := fr N0) (v := nI (strL.getD i 0)) hx hb (FC.str.1 i hi).2.2.2 hS rfl dJ1_charAt_3b067_2 ?_
  refine cSve (As := [.int (nI k), .int (nI (strL.getD i 0))]) S G (c_J0_checkIndex_df160 l (D := D) (ct := ct) (ek := ek) (ad := ad) (N0 := N0) (X := X) (F := F) σ cs (by first | assumption | omega | (simp [sg_at]; assumption) | (simp [sg_at]; done)) k (strL.getD i 0) (by omega) (strL_le hi)) ok_yJ0_checkIndex_df160 ml_RJ1_9 hP hS hl.1 rfl (by decide) rfl rfl (Nat.le_of_ble_eq_true rfl) ⟨Nat.zero_le _, Nat.zero_le _⟩ dJ1_charAt_3b067_3 (fun H locs hP hS => ?_)
  refine lv_aload_n hx hb dJ1_charAt_3b067_6 rfl (lv_at hl 0 rfl) ?_
  refine lv_iload_n hx hb dJ1_charAt_3b067_7 rfl (lv_at hl 1 rfl) ?_
  refine kbld (A := fr N0) (f := fun j => (strB.getD i []).getD j 0) hx hb (FC.str.1 i hi).2.2.2 hS k rfl (by omega) (strL_le hi) dJ1_charAt_3b067_8 ?_
  refine lv_sipush (v := 255) hx hb dJ1_charAt_3b067_9 (by decide) ?_
  refine lv_iand hx hb dJ1_charAt_3b067_12 ?_
  refine lv_i2c (v := (((chB i k) &&& 255).toUInt32 % 65536).toInt32) hx hb dJ1_charAt_3b067_13 rfl ?_
  refine lv_tope (y := chB i k) (chB_all i hi k hk8).1 ?_
  exact eZ S hr hlocks hP hS (chB_all i hi k hk8).2 dJ1_charAt_3b067_14 (by first | exact ⟨rfl, rfl⟩ | (refine ⟨?_, rfl⟩; simp []; done) | (simp []; done) | (simp only [↓reduceIte, if_true, if_false, and_self, true_and]; done) | grind [])

theorem ok_yJ0_charAt_5068e : COK RJ0 yJ0_charAt_5068e cJ0_charAt_5068e 2 (some .char) 1 := ⟨im_yJ0_charAt_5068e, se_RJ0_yJ0_charAt_5068e, in_RJ0, co_yJ0_charAt_5068e, ⟨rfl, by decide +kernel, by decide +kernel, by decide +kernel⟩, by decide⟩
set_option maxHeartbeats 1000000 in
set_option maxRecDepth 100000 in
theorem c_J0_charAt_5068e (l : Launch) {D : va_G} {ct : Nat → ClassId} {ek ad : Nat → Nat} {N0 : Nat} {X : va_W} {F : State → Prop} (σ : Mem) (cs : Nat → Nat) (hF : ∀ U, F U → FX ek cs N0 U) (i : Nat) (hi : i < 14) (k : Nat) (hk : k < strL.getD i 0) : MI l yJ0_charAt_5068e cJ0_charAt_5068e 2 (some .char) 3 D ct ek ad N0 X F [.ref (cs i), .int (nI k)] σ (fun r τ => r = chB i k ∧ τ = σ) := by
  refine ms0 (own := RJ0) (by decide) rfl (Nat.le_of_ble_eq_true rfl) (fun p e s m args below meth c S hr hlocks hnm G hP hS ls hl => ?_)
  have hx := S.1
  have hb := S.2.1
  replace hl : lv_has ls 2 [(0, .ref (cs i)), (1, .int (nI k))] := hl
  have FC := hF s G.2.2.2.2.2
  have hk8 := strL_lt hi hk
  refine lv_aload_n hx hb dJ0_charAt_5068e_0 rfl (lv_at hl 0 rfl) ?_
  refine cKie (As := []) S G (c_J0_isLatin1_aae02 l (D := D) (ct := ct) (ek := ek) (ad := ad) (N0 := N0) (X := X) (F := F) σ cs (by first | assumption | omega | (simp [sg_at]; assumption) | (simp [sg_at]; done)) i hi) ok_yJ0_isLatin1_aae02 ml_RJ0_492 (vk_recv FC.str hi hS) hP hS hl.1 rfl (by decide) rfl rfl (Nat.le_of_ble_eq_true rfl) ⟨Nat.zero_le _, Nat.zero_le _⟩ dJ0_charAt_5068e_1 (fun H locs hP hS => ?_)
  refine lv_if_eq (tgt := 16) hx hb dJ0_charAt_5068e_4 (by decide) (fun c_4 => absurd c_4 (by decide)) (fun c_4 => ?_)
  refine lv_aload_n hx hb dJ0_charAt_5068e_7 rfl (lv_at hl 0 rfl) ?_
  refine vk_getf (A := fr N0) hx hb (FC.str.1 i hi).2.2.1 hS S.2.2.2.1 (S.2.2.2.2 _ fl_RJ0_9) (fun _ h => h) dJ0_charAt_5068e_8 ?_
  refine lv_iload_n hx hb dJ0_charAt_5068e_11 rfl (lv_at hl 1 rfl) ?_
  refine cSie (As := [.ref (cs (20 + i)), .int (nI k)]) S G (c_J1_charAt_3b067 l (D := D) (ct := ct) (ek := ek) (ad := ad) (N0 := N0) (X := X) (F := F) σ cs (by first | assumption | omega | (simp [sg_at]; assumption) | (simp [sg_at]; done)) i hi k (by omega)) ok_yJ1_charAt_3b067 ml_RJ0_495 hP hS hl.1 rfl (by decide) rfl rfl (Nat.le_of_ble_eq_true rfl) ⟨Nat.zero_le _, Nat.zero_le _⟩ dJ0_charAt_5068e_12 (fun H locs hP hS => ?_)
  exact eZ S hr hlocks hP hS (chB_all i hi k hk8).2 dJ0_charAt_5068e_15 (by first | exact ⟨rfl, rfl⟩ | (refine ⟨?_, rfl⟩; simp [c_4]; done) | (simp [c_4]; done) | (simp only [c_4, ↓reduceIte, if_true, if_false, and_self, true_and]; done) | grind [])

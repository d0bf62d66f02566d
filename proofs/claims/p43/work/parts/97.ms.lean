/-! a text that was put together, read (laid by wip/p43/spec_ms.py) -/
theorem wlX {ct : Nat → ClassId} {ek ad : Nat → Nat} {σ : Mem} {X : va_W} {j : Nat} {q : Nat × va_E} (h : X[j]? = some q) : (wl ct ek ad σ ++ X)[276 + j]? = some q := by
  rw [List.getElem?_append_right (by rw [wl_len]; omega), wl_len, Nat.add_sub_cancel_left]; exact h
set_option maxHeartbeats 1000000 in
set_option maxRecDepth 100000 in
theorem c_m_coder (l : Launch) {D : va_G} {ct : Nat → ClassId} {ek ad : Nat → Nat} {N0 : Nat} {X : va_W} {F : State → Prop} (σ : Mem) (cs : Nat → Nat) (hF : ∀ U, F U → FX ek cs N0 U) (z : Nat) (bz : Nat) (n : Nat) (f : Nat → Int32) (jz : Nat) (jb : Nat) (hn : n ≤ 100) (hz : X[jz]? = some (z, .inr (10, [.ref bz, .int 0, .int 0, .int 0]))) (hbv : X[jb]? = some (bz, .inl (ct 7, n, .inl f))) (hch : ∀ k, k < n → ((f k &&& 255).toUInt32 % 65536).toInt32 = f k ∧ narrow .char (.int (f k)) = .int (f k)) : MI l yJ0_coder_7d493 cJ0_coder_7d493 1 (some .byte) 0 D ct ek ad N0 X F [.ref z] σ (fun r τ => r = 0 ∧ τ = σ) := by
  refine ms0 (own := RJ0) (by decide) rfl (Nat.le_of_ble_eq_true rfl) (fun p e s m args below meth c S hr hlocks hnm G hP hS ls hl => ?_)
  have hx := S.1
  have hb := S.2.1
  replace hl : lv_has ls 1 [(0, .ref z)] := hl
  have FC := hF s G.2.2.2.2.2
  refine va_gets (A := fr N0) hx hb FC.comp hS S.2.2.2.1 (S.2.2.2.2 _ fl_RJ0_38) (fun _ h => h) dJ0_coder_7d493_0 ?_
  refine lv_if_eq (tgt := 13) hx hb dJ0_coder_7d493_3 (by decide) (fun c_3 => absurd c_3 (by decide)) (fun c_3 => ?_)
  refine lv_aload_n hx hb dJ0_coder_7d493_6 rfl (lv_at hl 0 rfl) ?_
  refine va_get (D := D) (C := RJ0) (T := TJ0) (N := 4) S.1 S.2.1 S.2.2.2.2 inJ0 S.2.2.2.1 G.1 hP (276 + jz) (wlX hz) rfl 1 (by decide) (S.2.2.2.2 _ fl_RJ0_15) (fun x h => h) rfl dJ0_coder_7d493_7 ?_
  refine lv_goto (tgt := 14) hx hb dJ0_coder_7d493_10 (by decide) ?_
  exact eZ S hr hlocks hP hS (by decide) dJ0_coder_7d493_14 (by first | exact ⟨rfl, rfl⟩ | (refine ⟨?_, rfl⟩; simp [c_3]; done) | (simp [c_3]; done) | (simp only [c_3, ↓reduceIte, if_true, if_false, and_self, true_and]; done) | grind [])

set_option maxHeartbeats 1000000 in
set_option maxRecDepth 100000 in
theorem c_m_isLatin1 (l : Launch) {D : va_G} {ct : Nat → ClassId} {ek ad : Nat → Nat} {N0 : Nat} {X : va_W} {F : State → Prop} (σ : Mem) (cs : Nat → Nat) (hF : ∀ U, F U → FX ek cs N0 U) (z : Nat) (bz : Nat) (n : Nat) (f : Nat → Int32) (jz : Nat) (jb : Nat) (hn : n ≤ 100) (hz : X[jz]? = some (z, .inr (10, [.ref bz, .int 0, .int 0, .int 0]))) (hbv : X[jb]? = some (bz, .inl (ct 7, n, .inl f))) (hch : ∀ k, k < n → ((f k &&& 255).toUInt32 % 65536).toInt32 = f k ∧ narrow .char (.int (f k)) = .int (f k)) : MI l yJ0_isLatin1_aae02 cJ0_isLatin1_aae02 1 (some .boolean) 0 D ct ek ad N0 X F [.ref z] σ (fun r τ => r = 1 ∧ τ = σ) := by
  refine ms0 (own := RJ0) (by decide) rfl (Nat.le_of_ble_eq_true rfl) (fun p e s m args below meth c S hr hlocks hnm G hP hS ls hl => ?_)
  have hx := S.1
  have hb := S.2.1
  replace hl : lv_has ls 1 [(0, .ref z)] := hl
  have FC := hF s G.2.2.2.2.2
  refine va_gets (A := fr N0) hx hb FC.comp hS S.2.2.2.1 (S.2.2.2.2 _ fl_RJ0_38) (fun _ h => h) dJ0_isLatin1_aae02_0 ?_
  refine lv_if_eq (tgt := 17) hx hb dJ0_isLatin1_aae02_3 (by decide) (fun c_3 => absurd c_3 (by decide)) (fun c_3 => ?_)
  refine lv_aload_n hx hb dJ0_isLatin1_aae02_6 rfl (lv_at hl 0 rfl) ?_
  refine va_get (D := D) (C := RJ0) (T := TJ0) (N := 4) S.1 S.2.1 S.2.2.2.2 inJ0 S.2.2.2.1 G.1 hP (276 + jz) (wlX hz) rfl 1 (by decide) (S.2.2.2.2 _ fl_RJ0_15) (fun x h => h) rfl dJ0_isLatin1_aae02_7 ?_
  refine lv_if_ne (tgt := 17) hx hb dJ0_isLatin1_aae02_10 (by decide) (fun c_10 => absurd rfl c_10) (fun c_10 => ?_)
  refine lv_iconst (v := 1) hx hb dJ0_isLatin1_aae02_13 (by decide) ?_
  refine lv_goto (tgt := 18) hx hb dJ0_isLatin1_aae02_14 (by decide) ?_
  exact eZ S hr hlocks hP hS (by decide) dJ0_isLatin1_aae02_18 (by first | exact ⟨rfl, rfl⟩ | (refine ⟨?_, rfl⟩; simp [c_3, c_10]; done) | (simp [c_3, c_10]; done) | (simp only [c_3, c_10, ↓reduceIte, if_true, if_false, and_self, true_and]; done) | grind [])

set_option maxHeartbeats 1000000 in
set_option maxRecDepth 100000 in
theorem c_m_length (l : Launch) {D : va_G} {ct : Nat → ClassId} {ek ad : Nat → Nat} {N0 : Nat} {X : va_W} {F : State → Prop} (σ : Mem) (cs : Nat → Nat) (hF : ∀ U, F U → FX ek cs N0 U) (z : Nat) (bz : Nat) (n : Nat) (f : Nat → Int32) (jz : Nat) (jb : Nat) (hn : n ≤ 100) (hz : X[jz]? = some (z, .inr (10, [.ref bz, .int 0, .int 0, .int 0]))) (hbv : X[jb]? = some (bz, .inl (ct 7, n, .inl f))) (hch : ∀ k, k < n → ((f k &&& 255).toUInt32 % 65536).toInt32 = f k ∧ narrow .char (.int (f k)) = .int (f k)) : MI l yJ0_length_8abf5 cJ0_length_8abf5 1 (some .int) 1 D ct ek ad N0 X F [.ref z] σ (fun r τ => r = nI n ∧ τ = σ) := by
  refine ms0 (own := RJ0) (by decide) rfl (Nat.le_of_ble_eq_true rfl) (fun p e s m args below meth c S hr hlocks hnm G hP hS ls hl => ?_)
  have hx := S.1
  have hb := S.2.1
  replace hl : lv_has ls 1 [(0, .ref z)] := hl
  have FC := hF s G.2.2.2.2.2
  refine lv_aload_n hx hb dJ0_length_8abf5_0 rfl (lv_at hl 0 rfl) ?_
  refine va_get (D := D) (C := RJ0) (T := TJ0) (N := 4) S.1 S.2.1 S.2.2.2.2 inJ0 S.2.2.2.1 G.1 hP (276 + jz) (wlX hz) rfl 0 (by decide) (S.2.2.2.2 _ fl_RJ0_9) (fun x h => h) rfl dJ0_length_8abf5_1 ?_
  refine va_alen (D := D) (tys := tysF ct) S.1 S.2.1 G.1 hP (276 + jb) 7 (wlX hbv) rfl rfl dJ0_length_8abf5_4 ?_
  refine lv_aload_n hx hb dJ0_length_8abf5_5 rfl (lv_at hl 0 rfl) ?_
  refine cKie (As := []) S G (c_m_coder l (D := D) (ct := ct) (ek := ek) (ad := ad) (N0 := N0) (X := X) (F := F) σ cs (by first | assumption | omega | (simp [sg_at]; assumption) | (simp [sg_at]; done)) z bz n f jz jb (by omega) (by first | assumption | omega | (simp [sg_at]; assumption) | (simp [sg_at]; done)) (by first | assumption | omega | (simp [sg_at]; assumption) | (simp [sg_at]; done)) (by omega)) ok_yJ0_coder_7d493 ml_RJ0_335 (va_recv G.1 hP (ci := 10) rfl (wlX hz)) hP hS hl.1 rfl (by decide) rfl rfl (Nat.le_of_ble_eq_true rfl) ⟨Nat.zero_le _, Nat.zero_le _⟩ dJ0_length_8abf5_6 (fun H locs hP hS => ?_)
  refine lv_ishr hx hb dJ0_length_8abf5_9 ?_
  refine lv_tope (y := nI n) (sh0 _) ?_
  exact eI S hr hlocks hP hS dJ0_length_8abf5_10 (by first | exact ⟨rfl, rfl⟩ | (refine ⟨?_, rfl⟩; simp []; done) | (simp []; done) | (simp only [↓reduceIte, if_true, if_false, and_self, true_and]; done) | grind [])

set_option maxHeartbeats 1000000 in
set_option maxRecDepth 100000 in
theorem c_m_l1charAt (l : Launch) {D : va_G} {ct : Nat → ClassId} {ek ad : Nat → Nat} {N0 : Nat} {X : va_W} {F : State → Prop} (σ : Mem) (cs : Nat → Nat) (hF : ∀ U, F U → FX ek cs N0 U) (z : Nat) (bz : Nat) (n : Nat) (f : Nat → Int32) (jz : Nat) (jb : Nat) (hn : n ≤ 100) (hz : X[jz]? = some (z, .inr (10, [.ref bz, .int 0, .int 0, .int 0]))) (hbv : X[jb]? = some (bz, .inl (ct 7, n, .inl f))) (hch : ∀ k, k < n → ((f k &&& 255).toUInt32 % 65536).toInt32 = f k ∧ narrow .char (.int (f k)) = .int (f k)) (k : Nat) (hk : k < n) : MI l yJ1_charAt_3b067 cJ1_charAt_3b067 2 (some .char) 2 D ct ek ad N0 X F [.ref bz, .int (nI k)] σ (fun r τ => r = f k ∧ τ = σ) := by
  refine ms0 (own := RJ1) (by decide) rfl (Nat.le_of_ble_eq_true rfl) (fun p e s m args below meth c S hr hlocks hnm G hP hS ls hl => ?_)
  have hx := S.1
  have hb := S.2.1
  replace hl : lv_has ls 2 [(0, .ref bz), (1, .int (nI k))] := hl
  have FC := hF s G.2.2.2.2.2
  refine lv_iload_n hx hb dJ1_charAt_3b067_0 rfl (lv_at hl 1 rfl) ?_
  refine lv_aload_n hx hb dJ1_charAt_3b067_1 rfl (lv_at hl 0 rfl) ?_
  refine va_alen (D := D) (tys := tysF ct) S.1 S.2.1 G.1 hP (276 + jb) 7 (wlX hbv) rfl rfl dJ1_charAt_3b067_2 ?_
  refine cSve (As := [.int (nI k), .int (nI n)]) S G (c_J0_checkIndex_df160 l (D := D) (ct := ct) (ek := ek) (ad := ad) (N0 := N0) (X := X) (F := F) σ cs (by first | assumption | omega | (simp [sg_at]; assumption) | (simp [sg_at]; done)) k n (by omega) (by omega)) ok_yJ0_checkIndex_df160 ml_RJ1_9 hP hS hl.1 rfl (by decide) rfl rfl (Nat.le_of_ble_eq_true rfl) ⟨Nat.zero_le _, Nat.zero_le _⟩ dJ1_charAt_3b067_3 (fun H locs hP hS => ?_)
  refine lv_aload_n hx hb dJ1_charAt_3b067_6 rfl (lv_at hl 0 rfl) ?_
  refine lv_iload_n hx hb dJ1_charAt_3b067_7 rfl (lv_at hl 1 rfl) ?_
  refine va_bald (D := D) (tys := tysF ct) S.1 S.2.1 G.1 hP (276 + jb) 7 (wlX hbv) rfl (vp_in_nI hk (by omega)) dJ1_charAt_3b067_8 ?_
  rw [nI_clamp (show k < 2 ^ 31 by omega)]
  refine lv_sipush (v := 255) hx hb dJ1_charAt_3b067_9 (by decide) ?_
  refine lv_iand hx hb dJ1_charAt_3b067_12 ?_
  refine lv_i2c (v := (((f k) &&& 255).toUInt32 % 65536).toInt32) hx hb dJ1_charAt_3b067_13 rfl ?_
  refine lv_tope (y := f k) (hch k hk).1 ?_
  exact eZ S hr hlocks hP hS (hch k hk).2 dJ1_charAt_3b067_14 (by first | exact ⟨rfl, rfl⟩ | (refine ⟨?_, rfl⟩; simp []; done) | (simp []; done) | (simp only [↓reduceIte, if_true, if_false, and_self, true_and]; done) | grind [])

set_option maxHeartbeats 1000000 in
set_option maxRecDepth 100000 in
theorem c_m_charAt (l : Launch) {D : va_G} {ct : Nat → ClassId} {ek ad : Nat → Nat} {N0 : Nat} {X : va_W} {F : State → Prop} (σ : Mem) (cs : Nat → Nat) (hF : ∀ U, F U → FX ek cs N0 U) (z : Nat) (bz : Nat) (n : Nat) (f : Nat → Int32) (jz : Nat) (jb : Nat) (hn : n ≤ 100) (hz : X[jz]? = some (z, .inr (10, [.ref bz, .int 0, .int 0, .int 0]))) (hbv : X[jb]? = some (bz, .inl (ct 7, n, .inl f))) (hch : ∀ k, k < n → ((f k &&& 255).toUInt32 % 65536).toInt32 = f k ∧ narrow .char (.int (f k)) = .int (f k)) (k : Nat) (hk : k < n) : MI l yJ0_charAt_5068e cJ0_charAt_5068e 2 (some .char) 3 D ct ek ad N0 X F [.ref z, .int (nI k)] σ (fun r τ => r = f k ∧ τ = σ) := by
  refine ms0 (own := RJ0) (by decide) rfl (Nat.le_of_ble_eq_true rfl) (fun p e s m args below meth c S hr hlocks hnm G hP hS ls hl => ?_)
  have hx := S.1
  have hb := S.2.1
  replace hl : lv_has ls 2 [(0, .ref z), (1, .int (nI k))] := hl
  have FC := hF s G.2.2.2.2.2
  refine lv_aload_n hx hb dJ0_charAt_5068e_0 rfl (lv_at hl 0 rfl) ?_
  refine cKie (As := []) S G (c_m_isLatin1 l (D := D) (ct := ct) (ek := ek) (ad := ad) (N0 := N0) (X := X) (F := F) σ cs (by first | assumption | omega | (simp [sg_at]; assumption) | (simp [sg_at]; done)) z bz n f jz jb (by omega) (by first | assumption | omega | (simp [sg_at]; assumption) | (simp [sg_at]; done)) (by first | assumption | omega | (simp [sg_at]; assumption) | (simp [sg_at]; done)) (by omega)) ok_yJ0_isLatin1_aae02 ml_RJ0_492 (va_recv G.1 hP (ci := 10) rfl (wlX hz)) hP hS hl.1 rfl (by decide) rfl rfl (Nat.le_of_ble_eq_true rfl) ⟨Nat.zero_le _, Nat.zero_le _⟩ dJ0_charAt_5068e_1 (fun H locs hP hS => ?_)
  refine lv_if_eq (tgt := 16) hx hb dJ0_charAt_5068e_4 (by decide) (fun c_4 => absurd c_4 (by decide)) (fun c_4 => ?_)
  refine lv_aload_n hx hb dJ0_charAt_5068e_7 rfl (lv_at hl 0 rfl) ?_
  refine va_get (D := D) (C := RJ0) (T := TJ0) (N := 4) S.1 S.2.1 S.2.2.2.2 inJ0 S.2.2.2.1 G.1 hP (276 + jz) (wlX hz) rfl 0 (by decide) (S.2.2.2.2 _ fl_RJ0_9) (fun x h => h) rfl dJ0_charAt_5068e_8 ?_
  refine lv_iload_n hx hb dJ0_charAt_5068e_11 rfl (lv_at hl 1 rfl) ?_
  refine cSie (As := [.ref bz, .int (nI k)]) S G (c_m_l1charAt l (D := D) (ct := ct) (ek := ek) (ad := ad) (N0 := N0) (X := X) (F := F) σ cs (by first | assumption | omega | (simp [sg_at]; assumption) | (simp [sg_at]; done)) z bz n f jz jb (by omega) (by first | assumption | omega | (simp [sg_at]; assumption) | (simp [sg_at]; done)) (by first | assumption | omega | (simp [sg_at]; assumption) | (simp [sg_at]; done)) (by omega) k (by omega)) ok_yJ1_charAt_3b067 ml_RJ0_495 hP hS hl.1 rfl (by decide) rfl rfl (Nat.le_of_ble_eq_true rfl) ⟨Nat.zero_le _, Nat.zero_le _⟩ dJ0_charAt_5068e_12 (fun H locs hP hS => ?_)
  exact eZ S hr hlocks hP hS (hch k hk).2 dJ0_charAt_5068e_15 (by first | exact ⟨rfl, rfl⟩ | (refine ⟨?_, rfl⟩; simp [c_4]; done) | (simp [c_4]; done) | (simp only [c_4, ↓reduceIte, if_true, if_false, and_self, true_and]; done) | grind [])
/-- it stays a text -/
theorem rcv_m {D : va_G} {ct : Nat → ClassId} {ek ad : Nat → Nat} {N0 : Nat} {X : va_W} {F : State → Prop} {z bz jz : Nat} (hz : X[jz]? = some (z, .inr (10, [.ref bz, .int 0, .int 0, .int 0]))) : RCV D ct ek ad N0 X F z RJ0 :=
  fun _ _ _ _ G hP _ => va_recv G.1 hP (ci := 10) rfl (wlX hz)
theorem rcv_k {D : va_G} {ct : Nat → ClassId} {ek ad : Nat → Nat} {N0 : Nat} {X : va_W} {F : State → Prop} {cs : Nat → Nat} (hF : ∀ U, F U → FX ek cs N0 U) {i : Nat} (hi : i < 14) : RCV D ct ek ad N0 X F (cs i) RJ0 :=
  fun s _ _ _ G _ hS => vk_recv (hF s G.2.2.2.2.2).str hi hS
/-- without the newest cells -/
theorem wP_drop {D : va_G} {ct : Nat → ClassId} {ek ad : Nat → Nat} {X Y : va_W} {σ : Mem} {H : Heap} (h : wP D ct ek ad (X ++ Y) σ H) : wP D ct ek ad X σ H := by
  intro k q hq
  refine h k q ?_
  have hk := (List.getElem?_eq_some_iff.mp hq).1
  rw [← List.append_assoc, List.getElem?_append_left hk]
  exact hq
theorem wG_drop {D : va_G} {ct : Nat → ClassId} {ek ad : Nat → Nat} {X Y : va_W} {μ : Mem} {H : Heap} (h : wG D ct ek ad (X ++ Y) μ H) : wG D ct ek ad X μ H := by
  obtain ⟨σ, h1, h2⟩ := h
  exact ⟨σ, wP_drop h1, h2⟩
theorem GI.x {D : va_G} {ct : Nat → ClassId} {ek ad : Nat → Nat} {N0 : Nat} {X : va_W} {F : State → Prop} {s : State} (h : GI D ct ek ad N0 X F s) (hC : ∀ U, F U → CX ct U) : GX D ct N0 F s := ⟨h.1, h.2.2.1, h.2.2.2.1, hC s h.2.2.2.2.2, h.2.2.2.2.1, h.2.2.2.2.2⟩
section GCX
variable {p : Program} {l : Launch} {e : Env} {R : Room} {s : State} {m : MethodId} {args : Array Value} {below : List Frame} {meth : Method} {c : Code} {H : Heap} {locs : List Loc} {cells slots : Nat} {Q : State → Prop}
variable {cc : ByteArray} {nL : Nat} {own : String} {pc : Nat} {ls : Array Slot} {rest : List Value}
variable {D : va_G} {ct : Nat → ClassId} {ek ad cs : Nat → Nat} {N0 : Nat} {X : va_W} {F : State → Prop} {σ μ : Mem} {c0 : Nat}
/-- a static method of the law's is called in a larger world -/
theorem gcX {idx n kp d k : Nat} {y : MethodName} {bs : ByteArray} {ret : Option FieldType} {As st : List Value} {post : Int32 → Mem → Prop} (c1 : Nat) (S : CallFix p m c cc nL s args BW own) (X0 : GX D ct N0 F s) (hD : va_D (fr N0) (wl ct ek ad σ ++ X)) (hM : MG l y (.code y bs n ret) d k D ct ek ad N0 X F As μ (gQi D ct ek ad N0 X post)) (ok : CKS y bs n ret kp) (hl : Cond.methodLink own idx y ∈ BW)
    (hW : wG D ct ek ad X μ H) (hS : va_S (fr N0) s.heap H locs) (hls : ls.size = nL) (hR : d + 1 ≤ R.frames ∧ 32 * d + 32 ≤ R.locals) (hk : As.length = kp) (hst : st = As.reverse ++ rest) (hrest : (rest.map fun v => v.category).sum ≤ 8) (hc : c0 + k ≤ c1 ∧ c1 ≤ R.cells ∧ 6 * c1 ≤ R.slots) (hdg : decode cc pc = .ok (.invokestatic idx, 3))
    (kk : ∀ (r : Int32) (ν : Mem) (H : Heap) (locs : List Loc), post r ν → wG D ct ek ad X ν H → va_S (fr N0) s.heap H locs → W p l e R s m args below meth c H locs c1 (6 * c1) Q (F0 m (pc + 3) ls (.int r :: rest))) : W p l e R s m args below meth c H locs c0 (6 * c0) Q (F0 m pc ls st) := by
  subst hst
  refine va_calli (va_runS (As := As) (rest := rest) S hM ⟨callB_of kp S.2.2.2.2 (gSs ok) rfl rfl rfl (S.2.2.2.2 _ ok.2.1) (S.2.2.2.2 _ hl) ok.2.2.2.1 ⟨hR.1, ?_⟩, S.2.2.2.2 _ ok.1⟩ ⟨gPc_blind, fun U hU hW' => ⟨rfl, ⟨(X0.at hS hU hW').1, va_D.mem hD, (X0.at hS hU hW').2.1, (X0.at hS hU hW').2.2.1, (X0.at hS hU hW').2.2.2.2.1, (X0.at hS hU hW').2.2.2.2.2⟩, by rw [hU]; exact hW⟩⟩ rfl hk hls rfl (lv_room hrest) hdg ⟨by omega, by omega⟩) hS (fun q _ h => h) (fun q h => h) (fun r u t H1 locs1 ht _ hp hB _ _ hS1 => ?_)
  · have := ok.2.2.2.2
    show 8 + (n + 11) + 32 * d ≤ R.locals
    omega
  · exact W.widen (k := c1) (n := 6 * c1) (by omega) (by omega) (kk r u H1 locs1 hp (by rw [← ht]; exact hB) hS1)
end GCX

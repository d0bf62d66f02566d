/-! the law's cases of means and shares (laid by wip/whole/spec_loop2.py) -/
theorem fv_c : ∀ j, j ≤ 6 → ∀ n, n ≤ 6 → ¬ n = 0 → Op.cmpValue (FP.dcmp (FP.f2d (FP.fdiv (FP.i2f (nI j)) (FP.i2f (nI n)))) (FP.f2d (FP.fdiv (FP.i2f (nI j)) (FP.i2f (nI n))))) .l = 0 := by decide +kernel
section MTS
variable {σ τ : Mem} {v v' : Nat → Int64} {w w' : Nat → UInt64} {r : Int32} {n : Nat}
theorem mtT_0 (h : mtT n = 0) : ¬ n = 0 := fun z => by unfold mtT at h; rw [if_pos z] at h; exact absurd h (by decide)
theorem mt_w {V : UInt64} (h : LQd v w (fun a τ => τ = σ ∧ mtT n = 0 ∧ a = V) (PXd [eAR] (mtT n) (fun τ => τ = σ)) r (τ, v', w')) : τ = σ ∧ r = mtT n ∧ (r = 0 → w' 0 = V) := by
  rcases h with ⟨h1, a, ⟨h2, h3, h4⟩, h5⟩ | ⟨E, h1, ⟨h2, j, h3, h4⟩, h5, h6⟩
  · refine ⟨h2, h1.trans h3.symm, fun _ => ?_⟩
    have e : w' = vf_upd w 0 a := congrArg Prod.snd h5
    rw [e, ← h4]; exact if_pos rfl
  · have hj := (List.getElem?_eq_some_iff.mp h3).1
    have j0 : j = 0 := by have : j < 1 := hj; omega
    subst j0
    refine ⟨h2, h5.trans h4.symm, fun z => ?_⟩
    rw [h5] at z; exact absurd z (by decide)
theorem ps_w {V : UInt32} (h : LQf v w (fun a τ => τ = σ ∧ mtT n = 0 ∧ a = V) (PXd [eAR] (mtT n) (fun τ => τ = σ)) r (τ, v', w')) : τ = σ ∧ r = mtT n ∧ (r = 0 → w' 0 = FP.f2d V) := by
  rcases h with ⟨h1, a, ⟨h2, h3, h4⟩, h5⟩ | ⟨E, h1, ⟨h2, j, h3, h4⟩, h5, h6⟩
  · refine ⟨h2, h1.trans h3.symm, fun _ => ?_⟩
    have e : w' = vf_upd w 0 (FP.f2d a) := congrArg Prod.snd h5
    rw [e, ← h4]; exact if_pos rfl
  · have hj := (List.getElem?_eq_some_iff.mp h3).1
    have j0 : j = 0 := by have : j < 1 := hj; omega
    subst j0
    refine ⟨h2, h5.trans h4.symm, fun z => ?_⟩
    rw [h5] at z; exact absurd z (by decide)
theorem ps_n {f : Nat → Int32} (hn6 : n ≤ 6) (h0 : mtT n = 0) : vf_n64 (FP.f2d (psV9 n (plmR f n))) ∧ Op.cmpValue (FP.dcmp (FP.f2d (psV9 n (plmR f n))) (FP.f2d (psV9 n (plmR f n)))) .l = 0 := by
  have n0 := mtT_0 h0
  obtain ⟨j, hj, ej⟩ := plm_6 (f := f) n
  unfold psV9
  rw [if_neg n0, ej]
  exact ⟨(fv_n j (by omega) n hn6 n0).2, fv_c j (by omega) n hn6 n0⟩
end MTS
section LCR3
variable {p : Program} {l : Launch} {e : Env} {R : Room} {s : State} {m : MethodId} {args : Array Value} {below : List Frame} {meth : Method} {c : Code} {H : Heap} {locs : List Loc} {cells slots : Nat} {Q : State → Prop}
variable {cc : ByteArray} {nL : Nat} {own : String} {pc : Nat} {ls : Array Slot} {rest : List Value}
variable {D : va_G} {ct : Nat → ClassId} {ek ad cs : Nat → Nat} {N0 : Nat} {X : va_W} {F : State → Prop} {σ : Mem}
theorem cVLd {C : String} {idx kp ci N n d : Nat} {y : MethodName} {bs : ByteArray} {T : u_T} {fs As st : List Value} {post : UInt64 → Mem → Prop} (S : CallFix p m c cc nL s args BW own) (G : GI D ct ek ad N0 X F s) (b : Nat) (hM : MD l y bs n d D ct ek ad N0 X F (.ref (ad b) :: As) σ post) (ok : COK C y bs n (some .double) kp) (hl : Cond.methodLink own idx y ∈ BW)
    (hb : b < 286) (he : cellF ct ek ad b (σ b) = .inr (ci, fs)) (hc : vcl[ci]? = some (C, T, N)) (hP : wP D ct ek ad X σ H) (hS : va_S (fr N0) s.heap H locs) (hls : ls.size = nL) (hR : d + 1 ≤ R.frames ∧ 32 * d + 32 ≤ R.locals) (hk : As.length = kp) (hst : st = As.reverse ++ .ref (ad b) :: rest) (hrest : (rest.map fun v => v.category).sum ≤ 8) (hcs : cells ≤ R.cells ∧ slots ≤ R.slots) (hdg : decode cc pc = .ok (.invokevirtual idx, 3))
    (kk : ∀ (r : UInt64) (τ : Mem) (H : Heap) (locs : List Loc), post r τ → wP D ct ek ad X τ H → va_S (fr N0) s.heap H locs → W p l e R s m args below meth c H locs cells slots Q (F0 m (pc + 3) ls (.double r :: rest))) : W p l e R s m args below meth c H locs cells slots Q (F0 m pc ls st) := by
  subst hst
  refine va_calld (va_runV (As := As) (rest := rest) S hM (cwV kp S.2.2.2.2 (gBV ok hl) rfl rfl rfl ok.2.2.2.2.1 ⟨hR.1, ?_⟩) ⟨GI.blind, va_recv G.1 hP hc ((wl_at hb).trans (congrArg (fun z => some (ad b, z)) he)), fun U hU hW => ⟨rfl, G.at hS hU hW, by rw [hU]; exact hP⟩⟩ rfl hk hls rfl (lv_room hrest) hdg ⟨hcs.1, hcs.2⟩) hS (fun q _ h => h) (fun q h => h) (fun r u t H1 locs1 ht _ hp hB _ _ hS1 => ?_)
  · have := ok.2.2.2.2.2
    show 8 + (n + 11) + 32 * d ≤ R.locals
    omega
  · exact kk r u H1 locs1 hp (by rw [← ht]; exact hB) hS1
theorem cVLf {C : String} {idx kp ci N n d : Nat} {y : MethodName} {bs : ByteArray} {T : u_T} {fs As st : List Value} {post : UInt32 → Mem → Prop} (S : CallFix p m c cc nL s args BW own) (G : GI D ct ek ad N0 X F s) (b : Nat) (hM : MF l y bs n d D ct ek ad N0 X F (.ref (ad b) :: As) σ post) (ok : COK C y bs n (some .float) kp) (hl : Cond.methodLink own idx y ∈ BW)
    (hb : b < 286) (he : cellF ct ek ad b (σ b) = .inr (ci, fs)) (hc : vcl[ci]? = some (C, T, N)) (hP : wP D ct ek ad X σ H) (hS : va_S (fr N0) s.heap H locs) (hls : ls.size = nL) (hR : d + 1 ≤ R.frames ∧ 32 * d + 32 ≤ R.locals) (hk : As.length = kp) (hst : st = As.reverse ++ .ref (ad b) :: rest) (hrest : (rest.map fun v => v.category).sum ≤ 8) (hcs : cells ≤ R.cells ∧ slots ≤ R.slots) (hdg : decode cc pc = .ok (.invokevirtual idx, 3))
    (kk : ∀ (r : UInt32) (τ : Mem) (H : Heap) (locs : List Loc), post r τ → wP D ct ek ad X τ H → va_S (fr N0) s.heap H locs → W p l e R s m args below meth c H locs cells slots Q (F0 m (pc + 3) ls (.float r :: rest))) : W p l e R s m args below meth c H locs cells slots Q (F0 m pc ls st) := by
  subst hst
  refine va_callf (va_runV (As := As) (rest := rest) S hM (cwV kp S.2.2.2.2 (gBV ok hl) rfl rfl rfl ok.2.2.2.2.1 ⟨hR.1, ?_⟩) ⟨GI.blind, va_recv G.1 hP hc ((wl_at hb).trans (congrArg (fun z => some (ad b, z)) he)), fun U hU hW => ⟨rfl, G.at hS hU hW, by rw [hU]; exact hP⟩⟩ rfl hk hls rfl (lv_room hrest) hdg ⟨hcs.1, hcs.2⟩) hS (fun q _ h => h) (fun q h => h) (fun r u t H1 locs1 ht _ hp hB _ _ hS1 => ?_)
  · have := ok.2.2.2.2.2
    show 8 + (n + 11) + 32 * d ≤ R.locals
    omega
  · exact kk r u H1 locs1 hp (by rw [← ht]; exact hB) hS1
end LCR3
section LLC
variable {p : Program} {l : Launch} {e : Env} {R : Room} {s : State} {m : MethodId} {args : Array Value} {below : List Frame} {meth : Method} {c : Code} {H : Heap} {locs : List Loc} {cells slots : Nat} {Q : State → Prop}
variable {ls : Array Slot} {D : va_G} {ct : Nat → ClassId} {ek ad cs : Nat → Nat} {N0 qo qd : Nat} {F : State → Prop} {σ : Mem} {v : Nat → Int64} {w : Nat → UInt64} {b L i : Nat} {xs : Nat → Int32}
set_option maxHeartbeats 1000000 in
set_option maxRecDepth 100000 in
/-- meanTilt -/
theorem lw_34 (LC : LWC p l R s m args c ek cs N0 F b L xs) (G : GI D ct ek ad N0 (outX ct qo qd v w) F s) (hi : i + 3 < L) (hcs : cells + 3 ≤ R.cells ∧ slots + 18 ≤ R.slots) (C : CRel σ σ) (hP : wP D ct ek ad (outX ct qo qd v w) σ H) (hS : va_S (fr N0) s.heap H locs) (hl : lv_has ls 9 (lvB b ad qo qd i)) (kk : LWK p l e R s m args below meth c cells slots Q D ct ek ad N0 qo qd b i) : W p l e R s m args below meth c H locs cells slots Q (F0 m 2075 ls []) := by
  obtain ⟨S, hlt, hF, hY, hX, hbl, hbN, hL, hR⟩ := LC
  have hx := S.1
  have hb := S.2.1
  obtain ⟨n, mb, jn, u, L9, W9, g9, hO, hp, hbr, ⟨hj, hj8, hu, hu8, hu4⟩, hT1, hT2, hT3, hT4⟩ := C.use
  have hn := W9.1.1
  have hn6 := W9.1.2.1
  have s9 := sum_120 W9
  have se := (sum_e W9 g9).1
  refine lv_aload_n hx hb dL_law_2075 rfl (lv_at hl 2 rfl) ?_
  refine lv_aload hx hb dL_law_2076 (lv_at hl 5 rfl) ?_
  refine cSL (As := [.ref (ad 0), .ref qd]) S G (c_L_meanTilt l hY σ v w (c_X10_meanTilt l σ n mb hO (by rw [se]; exact s9) cs hF hY hlt) (fun E τ h => PXd_1 h)) ck_meanTilt ml_RL_257 hP hS hl.1 ⟨by omega, by omega⟩ rfl rfl (Nat.le_of_ble_eq_true rfl) ⟨by omega, by omega⟩ dL_law_2078 (fun r τ v' w' H locs hq hP hS => ?_)
  obtain ⟨e2, e1, e3⟩ := mt_w hq
  rw [e2] at hP
  refine lv_istore (lv' := (6, .int r) :: lvB b ad qo qd i) hx hb dL_law_2081 hl (by decide) rfl (fun ls hl => ?_)
  refine lv_aload_n hx hb dL_law_2083 rfl (lv_at hl 4 rfl) ?_
  refine cVLd (As := []) S (GI.x G) 276 (c_X11_meanTilt l σ n hn hn6 s9) ok_yX11_meanTilt ml_RL_260 (by decide) oM rfl hP hS hl.1 ⟨by omega, by omega⟩ rfl rfl (Nat.le_of_ble_eq_true rfl) ⟨by omega, by omega⟩ dL_law_2084 (fun r2 τ2 H locs hq2 hP hS => ?_)
  obtain ⟨f1, f2⟩ := hq2
  rw [f2] at hP
  have f3 : r = 0 → w' 0 = r2 := fun z => by rw [f1, ← se]; exact e3 z
  refine lv_dstore (lv' := (7, .double r2) :: (6, .int r) :: lvB b ad qo qd i) hx hb dL_law_2087 hl (by decide) rfl (fun ls hl => ?_)
  refine lv_aload_n hx hb dL_law_2089 rfl (lv_at hl 5 rfl) ?_
  refine cVL (As := []) S (GI.x G) 276 (c_X11_thrown l (thM σ (mtT n))) ok_yX11_thrown ml_RL_143 (by decide) oM rfl hP hS hl.1 ⟨by omega, by omega⟩ rfl rfl (Nat.le_of_ble_eq_true rfl) ⟨by omega, by omega⟩ dL_law_2090 (fun r1 τ1 H locs hp1 hP hS => ?_)
  obtain ⟨p1, p2⟩ := hp1
  rw [p2] at hP
  refine lv_iload hx hb dL_law_2093 (lv_at hl 1 rfl) ?_
  have p3 : r1 = r := by rw [p1, e1]; unfold thM; exact sg_ss
  refine lv_icmp_eq (tgt := 2100) hx hb dL_law_2095 (by decide) (fun _ => ?_) (fun h => absurd p3 h)
  refine lv_iload hx hb dL_law_2100 (lv_at hl 1 rfl) ?_
  have hE : W p l e R s m args below meth c H locs (cells + 1) (slots + 6 * 1) Q (F0 m 2137 ls []) := by
    refine lv_goto (tgt := 2363) hx hb dL_law_2137 (by decide) ?_
    exact W.widen (by omega) (by omega) (kk _ _ _ H locs _ (th_0 C (fun _ _ => rfl)) hP hS (lv_sub hl [2, 3, 4, 5, 6, 7] rfl))
  refine lv_if_ne (tgt := 2137) hx hb dL_law_2102 (by decide) (fun _ => hE) (fun h0 => ?_)
  refine lv_aload hx hb dL_law_2105 (lv_at hl 7 rfl) ?_
  refine lv_iconst (v := 0) hx hb dL_law_2107 (by decide) ?_
  refine odld S (GI.x G) hP dL_law_2108 ?_
  rw [f3 h0]
  refine lv_dload hx hb dL_law_2109 (lv_at hl 0 rfl) ?_
  refine lv_dcmp hx hb dL_law_2111 ?_
  refine lv_if_eq (tgt := 2137) hx hb dL_law_2112 (by decide) (fun _ => hE) (fun h => ?_)
  refine lv_aload hx hb dL_law_2115 (lv_at hl 7 rfl) ?_
  refine lv_iconst (v := 0) hx hb dL_law_2117 (by decide) ?_
  refine odld S (GI.x G) hP dL_law_2118 ?_
  rw [f3 h0]
  refine lv_aload hx hb dL_law_2119 (lv_at hl 7 rfl) ?_
  refine lv_iconst (v := 0) hx hb dL_law_2121 (by decide) ?_
  refine odld S (GI.x G) hP dL_law_2122 ?_
  rw [f3 h0]
  refine lv_dcmp hx hb dL_law_2123 ?_
  refine lv_if_eq (tgt := 2135) hx hb dL_law_2124 (by decide) (fun q => absurd q h) (fun _ => ?_)
  refine lv_dload hx hb dL_law_2127 (lv_at hl 0 rfl) ?_
  refine lv_dload hx hb dL_law_2129 (lv_at hl 0 rfl) ?_
  refine lv_dcmp hx hb dL_law_2131 ?_
  exact lv_if_ne (tgt := 2137) hx hb dL_law_2132 (by decide) (fun _ => hE) (fun q => absurd q h)
set_option maxHeartbeats 1000000 in
set_option maxRecDepth 100000 in
/-- plumbShare -/
theorem lw_35 (LC : LWC p l R s m args c ek cs N0 F b L xs) (G : GI D ct ek ad N0 (outX ct qo qd v w) F s) (hi : i + 3 < L) (hcs : cells + 3 ≤ R.cells ∧ slots + 18 ≤ R.slots) (C : CRel σ σ) (hP : wP D ct ek ad (outX ct qo qd v w) σ H) (hS : va_S (fr N0) s.heap H locs) (hl : lv_has ls 9 (lvB b ad qo qd i)) (kk : LWK p l e R s m args below meth c cells slots Q D ct ek ad N0 qo qd b i) : W p l e R s m args below meth c H locs cells slots Q (F0 m 2140 ls []) := by
  obtain ⟨S, hlt, hF, hY, hX, hbl, hbN, hL, hR⟩ := LC
  have hx := S.1
  have hb := S.2.1
  obtain ⟨n, mb, jn, u, L9, W9, g9, hO, hp, hbr, ⟨hj, hj8, hu, hu8, hu4⟩, hT1, hT2, hT3, hT4⟩ := C.use
  have hn := W9.1.1
  have hn6 := W9.1.2.1
  obtain ⟨j9, hj9, ej9⟩ := plm_6 (f := σ (1 + 1 + 1)) n
  have se := (sum_e W9 g9).2
  refine lv_aload_n hx hb dL_law_2140 rfl (lv_at hl 2 rfl) ?_
  refine lv_aload hx hb dL_law_2141 (lv_at hl 5 rfl) ?_
  refine cSL (As := [.ref (ad 0), .ref qd]) S G (c_L_plumbShare l hY σ v w (fun a τ h => by rw [h.2.2]; exact (ps_n hn6 h.2.1).1) (c_X10_plumbShare l σ n mb hO ⟨j9, by omega, ej9⟩ cs hF hY hlt) (fun E τ h => PXd_1 h)) ck_plumbShare ml_RL_261 hP hS hl.1 ⟨by omega, by omega⟩ rfl rfl (Nat.le_of_ble_eq_true rfl) ⟨by omega, by omega⟩ dL_law_2143 (fun r τ v' w' H locs hq hP hS => ?_)
  obtain ⟨e2, e1, e3⟩ := ps_w hq
  rw [e2] at hP
  refine lv_istore (lv' := (6, .int r) :: lvB b ad qo qd i) hx hb dL_law_2146 hl (by decide) rfl (fun ls hl => ?_)
  refine lv_aload_n hx hb dL_law_2148 rfl (lv_at hl 4 rfl) ?_
  refine cVLf (As := []) S (GI.x G) 276 (c_X11_plumbShare l σ n hn hn6 ⟨j9, by omega, by rw [← se]; exact ej9⟩) ok_yX11_plumbShare ml_RL_263 (by decide) oM rfl hP hS hl.1 ⟨by omega, by omega⟩ rfl rfl (Nat.le_of_ble_eq_true rfl) ⟨by omega, by omega⟩ dL_law_2149 (fun r2 τ2 H locs hq2 hP hS => ?_)
  obtain ⟨f1, f2⟩ := hq2
  rw [f2] at hP
  have f3 : r = 0 → w' 0 = FP.f2d r2 := fun z => by rw [f1, ← se]; exact e3 z
  have f4 : r = 0 → vf_n64 (FP.f2d r2) ∧ Op.cmpValue (FP.dcmp (FP.f2d r2) (FP.f2d r2)) .l = 0 := fun z => by rw [f1]; exact ps_n hn6 (e1.symm.trans z)
  refine lv_fstore (lv' := (7, .float r2) :: (6, .int r) :: lvB b ad qo qd i) hx hb dL_law_2152 hl (by decide) rfl (fun ls hl => ?_)
  refine lv_aload_n hx hb dL_law_2154 rfl (lv_at hl 5 rfl) ?_
  refine cVL (As := []) S (GI.x G) 276 (c_X11_thrown l (thM σ (mtT n))) ok_yX11_thrown ml_RL_143 (by decide) oM rfl hP hS hl.1 ⟨by omega, by omega⟩ rfl rfl (Nat.le_of_ble_eq_true rfl) ⟨by omega, by omega⟩ dL_law_2155 (fun r1 τ1 H locs hp1 hP hS => ?_)
  obtain ⟨p1, p2⟩ := hp1
  rw [p2] at hP
  refine lv_iload hx hb dL_law_2158 (lv_at hl 1 rfl) ?_
  have p3 : r1 = r := by rw [p1, e1]; unfold thM; exact sg_ss
  refine lv_icmp_eq (tgt := 2165) hx hb dL_law_2160 (by decide) (fun _ => ?_) (fun h => absurd p3 h)
  refine lv_iload hx hb dL_law_2165 (lv_at hl 1 rfl) ?_
  have hE : W p l e R s m args below meth c H locs (cells + 1) (slots + 6 * 1) Q (F0 m 2203 ls []) := by
    refine lv_goto (tgt := 2363) hx hb dL_law_2203 (by decide) ?_
    exact W.widen (by omega) (by omega) (kk _ _ _ H locs _ (th_0 C (fun _ _ => rfl)) hP hS (lv_sub hl [2, 3, 4, 5, 6, 7] rfl))
  refine lv_if_ne (tgt := 2203) hx hb dL_law_2167 (by decide) (fun _ => hE) (fun h0 => ?_)
  refine lv_aload hx hb dL_law_2170 (lv_at hl 7 rfl) ?_
  refine lv_iconst (v := 0) hx hb dL_law_2172 (by decide) ?_
  refine odld S (GI.x G) hP dL_law_2173 ?_
  rw [f3 h0]
  refine lv_fload hx hb dL_law_2174 (lv_at hl 0 rfl) ?_
  refine lv_f2d hx hb dL_law_2176 (f4 h0).1 ?_
  refine lv_dcmp hx hb dL_law_2177 ?_
  refine lv_if_eq (tgt := 2203) hx hb dL_law_2178 (by decide) (fun _ => hE) (fun h => absurd (f4 h0).2 h)
end LLC

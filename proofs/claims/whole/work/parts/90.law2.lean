/-! the law's two helpers for means and shares -/
section LWR
variable {p : Program} {l : Launch} {e : Env} {R : Room} {s : State} {m : MethodId} {args : Array Value} {below : List Frame} {meth : Method} {c : Code} {H : Heap} {locs : List Loc} {cells slots : Nat} {Q : State → Prop}
variable {cc : ByteArray} {nL : Nat} {own : String} {pc : Nat} {ls : Array Slot} {rest : List Value}
variable {D : va_G} {ct : Nat → ClassId} {ek ad cs : Nat → Nat} {N0 : Nat} {X : va_W} {F : State → Prop} {σ : Mem}
/-- a call of a method that answers a double, what it throws to be handled -/
theorem cLd {C : String} {idx kp ci N n d d0 k k0 : Nat} {y : MethodName} {bs : ByteArray} {T : u_T} {fs As st : List Value} {post : UInt64 → Mem → Prop} {PX : String → Mem → Prop} (S : CallFix p m c cc nL s args BW own) (G : GI D ct ek ad N0 X F s) (b : Nat) (hM : MXd l y bs n d k D ct ek ad N0 X F (.ref (ad b) :: As) σ post PX) (ok : COK C y bs n (some .double) kp) (hl : Cond.methodLink own idx y ∈ BW)
    (hb : b < 286) (he : cellF ct ek ad b (σ b) = .inr (ci, fs)) (hc : vcl[ci]? = some (C, T, N)) (hP : wP D ct ek ad X σ H) (hS : va_S (fr N0) s.heap H locs) (hls : ls.size = nL) (hR : R = rmd d0 k0 (6 * k0)) (hd : d + 1 ≤ d0) (hk : As.length = kp) (hst : st = As.reverse ++ .ref (ad b) :: rest) (hrest : (rest.map fun v => v.category).sum ≤ 8) (hcs : cells + k ≤ k0 ∧ slots + 6 * k ≤ 6 * k0) (hdg : decode cc pc = .ok (.invokevirtual idx, 3))
    (kx : ∀ (E : String) (ce : Cell) (q : Addr) (τ : Mem) (H : Heap) (locs : List Loc), PX E τ → wP D ct ek ad X τ H → va_S (fr N0) s.heap H locs → H[q]? = some ce → ce.vm = .none → s.vm.findClass E = some ce.cls → vx_W p l e R s m args below meth c H locs (cells + k) (slots + 6 * k) Q (F0 m pc ls rest) q)
    (kk : ∀ (r : UInt64) (τ : Mem) (H : Heap) (locs : List Loc), post r τ → wP D ct ek ad X τ H → va_S (fr N0) s.heap H locs → W p l e R s m args below meth c H locs (cells + k) (slots + 6 * k) Q (F0 m (pc + 3) ls (.double r :: rest))) : W p l e R s m args below meth c H locs cells slots Q (F0 m pc ls st) := by
  subst hR
  subst hst
  refine vx_calld (vx_runV (As := As) (rest := rest) S hM (cwV kp S.2.2.2.2 (gBV ok hl) rfl rfl rfl ok.2.2.2.2.1 ⟨hd, ?_⟩) ⟨GI.blind, va_recv G.1 hP hc ((wl_at hb).trans (congrArg (fun z => some (ad b, z)) he)), fun U hU hW => ⟨rfl, G.at hS hU hW, by rw [hU]; exact hP⟩⟩ rfl hk hls rfl (lv_room hrest) hdg ⟨hcs.1, hcs.2⟩) hS (fun q _ h => h) (fun q h => h) (fun q _ h => h) (fun E ce q9 u t H1 locs1 ht _ _ hB hz hq hS1 hce hcv hcl => ?_) (fun r u t H1 locs1 ht _ hp hB _ _ hS1 => ?_)
  · have := ok.2.2.2.2.2
    show 8 + (n + 11) + 32 * d ≤ 32 * d0
    omega
  · exact kx E ce q9 u H1 locs1 hB.1 (by rw [← ht]; exact hB.2) hS1 hce hcv hcl
  · exact kk r u H1 locs1 hp (by rw [← ht]; exact hB) hS1
/-- a call of a method that answers a float, what it throws to be handled -/
theorem cLf {C : String} {idx kp ci N n d d0 k k0 : Nat} {y : MethodName} {bs : ByteArray} {T : u_T} {fs As st : List Value} {post : UInt32 → Mem → Prop} {PX : String → Mem → Prop} (S : CallFix p m c cc nL s args BW own) (G : GI D ct ek ad N0 X F s) (b : Nat) (hM : MXf l y bs n d k D ct ek ad N0 X F (.ref (ad b) :: As) σ post PX) (ok : COK C y bs n (some .float) kp) (hl : Cond.methodLink own idx y ∈ BW)
    (hb : b < 286) (he : cellF ct ek ad b (σ b) = .inr (ci, fs)) (hc : vcl[ci]? = some (C, T, N)) (hP : wP D ct ek ad X σ H) (hS : va_S (fr N0) s.heap H locs) (hls : ls.size = nL) (hR : R = rmd d0 k0 (6 * k0)) (hd : d + 1 ≤ d0) (hk : As.length = kp) (hst : st = As.reverse ++ .ref (ad b) :: rest) (hrest : (rest.map fun v => v.category).sum ≤ 8) (hcs : cells + k ≤ k0 ∧ slots + 6 * k ≤ 6 * k0) (hdg : decode cc pc = .ok (.invokevirtual idx, 3))
    (kx : ∀ (E : String) (ce : Cell) (q : Addr) (τ : Mem) (H : Heap) (locs : List Loc), PX E τ → wP D ct ek ad X τ H → va_S (fr N0) s.heap H locs → H[q]? = some ce → ce.vm = .none → s.vm.findClass E = some ce.cls → vx_W p l e R s m args below meth c H locs (cells + k) (slots + 6 * k) Q (F0 m pc ls rest) q)
    (kk : ∀ (r : UInt32) (τ : Mem) (H : Heap) (locs : List Loc), post r τ → wP D ct ek ad X τ H → va_S (fr N0) s.heap H locs → W p l e R s m args below meth c H locs (cells + k) (slots + 6 * k) Q (F0 m (pc + 3) ls (.float r :: rest))) : W p l e R s m args below meth c H locs cells slots Q (F0 m pc ls st) := by
  subst hR
  subst hst
  refine vx_callf (vx_runV (As := As) (rest := rest) S hM (cwV kp S.2.2.2.2 (gBV ok hl) rfl rfl rfl ok.2.2.2.2.1 ⟨hd, ?_⟩) ⟨GI.blind, va_recv G.1 hP hc ((wl_at hb).trans (congrArg (fun z => some (ad b, z)) he)), fun U hU hW => ⟨rfl, G.at hS hU hW, by rw [hU]; exact hP⟩⟩ rfl hk hls rfl (lv_room hrest) hdg ⟨hcs.1, hcs.2⟩) hS (fun q _ h => h) (fun q h => h) (fun q _ h => h) (fun E ce q9 u t H1 locs1 ht _ _ hB hz hq hS1 hce hcv hcl => ?_) (fun r u t H1 locs1 ht _ hp hB _ _ hS1 => ?_)
  · have := ok.2.2.2.2.2
    show 8 + (n + 11) + 32 * d ≤ 32 * d0
    omega
  · exact kx E ce q9 u H1 locs1 hB.1 (by rw [← ht]; exact hB.2) hS1 hce hcv hcl
  · exact kk r u H1 locs1 hp (by rw [← ht]; exact hB) hS1
end LWR
/-- what they answer; the last says whether f2d is done on it -/
def LQd (v : Nat → Int64) (w : Nat → UInt64) (post : UInt64 → Mem → Prop) (PX : String → Mem → Prop) (r : Int32) (u : Mem × (Nat → Int64) × (Nat → UInt64)) : Prop :=
  (r = 0 ∧ ∃ a, post a u.1 ∧ u.2 = (v, vf_upd w 0 a)) ∨ (∃ E, E = eAR ∧ PX E u.1 ∧ r = 1 ∧ u.2 = (v, w))
set_option maxHeartbeats 1000000 in
set_option maxRecDepth 100000 in
theorem c_L_meanTilt (l : Launch) {D : va_G} {ct : Nat → ClassId} {ek ad : Nat → Nat} {N0 qo qd d k : Nat} {F : State → Prop} (hY : ∀ U, F U → FY U) (σ : Mem) (v : Nat → Int64) (w : Nat → UInt64) {post : UInt64 → Mem → Prop} {PX : String → Mem → Prop}
    (hM : MXd l yX10_meanTilt cX10_meanTilt 2 d k D ct ek ad N0 (outX ct qo qd v w) F (.ref (ad 0) :: []) σ post PX) (hE : ∀ E τ, PX E τ → E = eAR) :
    ML l yL_meanTilt cL_meanTilt 3 [(0, 7, 10, 118)] (d + 1) k D ct ek ad N0 qo qd F [.ref (ad 0), .ref qd] σ v w (LQd v w post PX) := by
  refine ms0L (own := RL) (by decide) rfl (Nat.le_of_ble_eq_true rfl) (fun p e s m args below meth c S hr hlocks hT G hP hS ls hl => ?_)
  have hx := S.1
  have hb := S.2.1
  have FZ := hY s G.2.2.2.2.2
  replace hl : lv_has ls 3 [(0, .ref (ad 0)), (1, .ref qd)] := hl
  refine lv_aload_n hx hb dL_meanTilt_0 rfl (lv_at hl 1 rfl) ?_
  refine lv_iconst (v := 0) hx hb dL_meanTilt_1 (by decide) ?_
  refine lv_aload_n hx hb dL_meanTilt_2 rfl (lv_at hl 0 rfl) ?_
  refine cLd (As := []) S G 0 hM ok_yX10_meanTilt ml_RL_114 (by decide) oX rfl hP hS hl.1 rfl (Nat.le_refl _) rfl rfl (Nat.le_of_ble_eq_true rfl) ⟨by omega, by omega⟩ dL_meanTilt_3 (fun E ce q τ H locs hp hP hS hce hcv hcl => ?_) (fun r τ H locs hp hP hS => ?_)
  · obtain rfl := hE E τ hp
    refine ctch (pre := []) (x := ⟨0, 7, 10, 118⟩) (suf := []) S FZ hT (fun z hz => absurd hz List.not_mem_nil) rfl (by decide) cl_RL_118 (by decide +kernel) hce hcv hcl ?_
    refine lv_astore_n (lv' := [(2, .ref q), (0, .ref (ad 0)), (1, .ref qd)]) hx hb dL_meanTilt_10 rfl hl (by decide) rfl (fun ls hl => ?_)
    refine lv_iconst (v := 1) hx hb dL_meanTilt_11 (by decide) ?_
    exact eL S hr hlocks hP hS ⟨by omega, by omega⟩ dL_meanTilt_12 (Or.inr ⟨_, rfl, hp, rfl, rfl⟩)
  · refine odst S G hP hS dL_meanTilt_6 (fun H locs hP hS => ?_)
    refine lv_goto (tgt := 13) hx hb dL_meanTilt_7 (by decide) ?_
    refine lv_iconst (v := 0) hx hb dL_meanTilt_13 (by decide) ?_
    exact eL S hr hlocks hP hS ⟨by omega, by omega⟩ dL_meanTilt_14 (Or.inl ⟨rfl, r, hp, rfl⟩)
def LQf (v : Nat → Int64) (w : Nat → UInt64) (post : UInt32 → Mem → Prop) (PX : String → Mem → Prop) (r : Int32) (u : Mem × (Nat → Int64) × (Nat → UInt64)) : Prop :=
  (r = 0 ∧ ∃ a, post a u.1 ∧ u.2 = (v, vf_upd w 0 (FP.f2d a))) ∨ (∃ E, E = eAR ∧ PX E u.1 ∧ r = 1 ∧ u.2 = (v, w))
set_option maxHeartbeats 1000000 in
set_option maxRecDepth 100000 in
theorem c_L_plumbShare (l : Launch) {D : va_G} {ct : Nat → ClassId} {ek ad : Nat → Nat} {N0 qo qd d k : Nat} {F : State → Prop} (hY : ∀ U, F U → FY U) (σ : Mem) (v : Nat → Int64) (w : Nat → UInt64) {post : UInt32 → Mem → Prop} {PX : String → Mem → Prop} (hn : ∀ a τ, post a τ → vf_n64 (FP.f2d a))
    (hM : MXf l yX10_plumbShare cX10_plumbShare 2 d k D ct ek ad N0 (outX ct qo qd v w) F (.ref (ad 0) :: []) σ post PX) (hE : ∀ E τ, PX E τ → E = eAR) :
    ML l yL_plumbShare cL_plumbShare 3 [(0, 8, 11, 118)] (d + 1) k D ct ek ad N0 qo qd F [.ref (ad 0), .ref qd] σ v w (LQf v w post PX) := by
  refine ms0L (own := RL) (by decide) rfl (Nat.le_of_ble_eq_true rfl) (fun p e s m args below meth c S hr hlocks hT G hP hS ls hl => ?_)
  have hx := S.1
  have hb := S.2.1
  have FZ := hY s G.2.2.2.2.2
  replace hl : lv_has ls 3 [(0, .ref (ad 0)), (1, .ref qd)] := hl
  refine lv_aload_n hx hb dL_plumbShare_0 rfl (lv_at hl 1 rfl) ?_
  refine lv_iconst (v := 0) hx hb dL_plumbShare_1 (by decide) ?_
  refine lv_aload_n hx hb dL_plumbShare_2 rfl (lv_at hl 0 rfl) ?_
  refine cLf (As := []) S G 0 hM ok_yX10_plumbShare ml_RL_120 (by decide) oX rfl hP hS hl.1 rfl (Nat.le_refl _) rfl rfl (Nat.le_of_ble_eq_true rfl) ⟨by omega, by omega⟩ dL_plumbShare_3 (fun E ce q τ H locs hp hP hS hce hcv hcl => ?_) (fun r τ H locs hp hP hS => ?_)
  · obtain rfl := hE E τ hp
    refine ctch (pre := []) (x := ⟨0, 8, 11, 118⟩) (suf := []) S FZ hT (fun z hz => absurd hz List.not_mem_nil) rfl (by decide) cl_RL_118 (by decide +kernel) hce hcv hcl ?_
    refine lv_astore_n (lv' := [(2, .ref q), (0, .ref (ad 0)), (1, .ref qd)]) hx hb dL_plumbShare_11 rfl hl (by decide) rfl (fun ls hl => ?_)
    refine lv_iconst (v := 1) hx hb dL_plumbShare_12 (by decide) ?_
    exact eL S hr hlocks hP hS ⟨by omega, by omega⟩ dL_plumbShare_13 (Or.inr ⟨_, rfl, hp, rfl, rfl⟩)
  · refine lv_f2d hx hb dL_plumbShare_6 (hn r τ hp) ?_
    refine odst S G hP hS dL_plumbShare_7 (fun H locs hP hS => ?_)
    refine lv_goto (tgt := 14) hx hb dL_plumbShare_8 (by decide) ?_
    refine lv_iconst (v := 0) hx hb dL_plumbShare_14 (by decide) ?_
    exact eL S hr hlocks hP hS ⟨by omega, by omega⟩ dL_plumbShare_15 (Or.inl ⟨rfl, r, hp, rfl⟩)

/-! what is thrown: rows over the world -/
def xtB (w : Cond) : Bool := match w with
  | .declares _ => true
  | .castable _ _ => true
  | _ => false
/-- pairs of classes, the first not castable to the second (the law's handlers pass them by) -/
def ncL : List (String × String) := [("java/lang/IllegalArgumentException", "java/lang/IndexOutOfBoundsException"), ("java/util/NoSuchElementException", "java/lang/IndexOutOfBoundsException"), ("java/util/NoSuchElementException", "java/lang/IllegalArgumentException"), ("java/lang/UnsupportedOperationException", "java/lang/IllegalArgumentException")]
def FY (U : State) : Prop := (∀ w ∈ lw_tbl, xtB w = true → va_Nw w U) ∧ ∀ q ∈ ncL, va_Nc q.1 q.2 U
theorem xt_tab {w : Cond} (h : xtB w = true) : w.onTables = true := by
  unfold xtB at h
  split at h
  · rfl
  · rfl
  · cases h
theorem FY.stab (N0 : Nat) : Stab N0 FY := by
  intro U V hW hz hq hF
  refine ⟨fun w hw hx => ?_, fun q hq => va_Nc.moved hW.alike (hF.2 q hq)⟩
  have h := hF.1 w hw hx
  unfold xtB at hx
  split at hx
  · exact va_Nw.warmD hW h
  · exact va_Nw.warmC hW h
  · cases hx
abbrev XCm (D : va_G) (ct : Nat → ClassId) (ek ad : Nat → Nat) (N0 : Nat) (X : va_W) (PX : String → Mem → Prop) : String → State → State → Prop := vx_X (fun _ : Mem => True) (fun E τ t => PX E τ ∧ wP D ct ek ad X τ t.heap) (fr N0)
/-- contracts of methods that may throw; k: how many exceptions they may make -/
abbrev MXq (l : Launch) (y : MethodName) (cc : ByteArray) (n : Nat) (ret : Option FieldType) (d k : Nat) (D : va_G) (ct : Nat → ClassId) (ek ad : Nat → Nat) (N0 : Nat) (X : va_W) (F : State → Prop) (As : List Value) (σ : Mem) (Qc : Array Value → State → Outcome → State → Prop) (PX : String → Mem → Prop) : Prop :=
  vx_Met l y (wy y cc n ret) (rmd d k (6 * k)) (wPc D ct ek ad N0 X F As σ) Qc (XCm D ct ek ad N0 X PX) k (6 * k) (fr N0)
abbrev MXi (l : Launch) (y : MethodName) (cc : ByteArray) (n : Nat) (ret : Option FieldType) (d k : Nat) (D : va_G) (ct : Nat → ClassId) (ek ad : Nat → Nat) (N0 : Nat) (X : va_W) (F : State → Prop) (As : List Value) (σ : Mem) (post : Int32 → Mem → Prop) (PX : String → Mem → Prop) : Prop := MXq l y cc n ret d k D ct ek ad N0 X F As σ (wQi D ct ek ad N0 X post) PX
abbrev MXv (l : Launch) (y : MethodName) (cc : ByteArray) (n : Nat) (d k : Nat) (D : va_G) (ct : Nat → ClassId) (ek ad : Nat → Nat) (N0 : Nat) (X : va_W) (F : State → Prop) (As : List Value) (σ : Mem) (post : Mem → Prop) (PX : String → Mem → Prop) : Prop := MXq l y cc n none d k D ct ek ad N0 X F As σ (wQv D ct ek ad N0 X post) PX
section XR
variable {p : Program} {l : Launch} {e : Env} {R : Room} {s : State} {m : MethodId} {args : Array Value} {below : List Frame} {meth : Method} {c : Code} {H : Heap} {locs : List Loc} {cells slots : Nat} {Q : State → Prop}
variable {cc : ByteArray} {nL : Nat} {own : String} {pc : Nat} {ls : Array Slot} {rest : List Value}
variable {D : va_G} {ct : Nat → ClassId} {ek ad cs : Nat → Nat} {N0 : Nat} {X : va_W} {F : State → Prop} {σ : Mem}
/-- the start of a method that may throw -/
theorem ms0x {y : MethodName} {ret : Option FieldType} {d k : Nat} {As : List Value} {Qc : Array Value → State → Outcome → State → Prop} {PX : String → Mem → Prop} (hy : plainName y.cls = true) (ho : y.cls = own) (hlen : (lg_sl As).length ≤ nL)
    (body : ∀ p e s m args below meth c, CallFix p m c cc nL s args BW own → meth.sig.returnType = ret → meth.locks = false → (∀ x ∈ c.exceptionTable.toList, False) → GI D ct ek ad N0 X F s → wP D ct ek ad X σ s.heap → va_S (fr N0) s.heap s.heap [] → ∀ ls, lv_has ls nL (lv_args 0 As) →
      W p l e (rmd d k (6 * k)) s m args below meth c s.heap [] 0 0 (vx_MQ below Qc (XCm D ct ek ad N0 X PX) args s k (6 * k) (fr N0)) (F0 m 0 ls [])) :
    MXq l y cc nL ret d k D ct ek ad N0 X F As σ Qc PX := by
  refine vx_ofW (cc := cc) (maxL := nL) (ret := ret) hy rfl ?_
  intro p e s m args below meth c s₁ B hml ht hv
  obtain ⟨rfl, G, hP⟩ := hv
  have hts := atoms_spec (ws := wy y cc nL ret) B.pre
  have hown : s.vm.findClass own = some m.cls := by rw [← ho]; exact findClass_of_methodNamed B.named
  have hl := lv_entry As (n := nL) hlen
  rw [lg_entry_eq]
  exact body p e s m _ below meth c ⟨B.exec, B.bytes, hml, hown, fun w hw => hts w (List.mem_cons_of_mem _ hw)⟩ B.returns B.notSynchronized ht G hP va_S.rf _ hl
/-- ends -/
theorem eIx {post : Int32 → Mem → Prop} {PX : String → Mem → Prop} {r : Int32} {k : Nat} (S : CallFix p m c cc nL s args BW own) (hr : meth.sig.returnType = some .int) (hlocks : meth.locks = false) (hP : wP D ct ek ad X σ H) (hS : va_S (fr N0) s.heap H locs) (hcs : cells ≤ k ∧ slots ≤ 6 * k) (hdg : decode cc pc = .ok (.ireturn, 1)) (hp : post r σ) :
    W p l e R s m args below meth c H locs cells slots (vx_MQ below (wQi D ct ek ad N0 X post) (XCm D ct ek ad N0 X PX) args s k (6 * k) (fr N0)) (F0 m pc ls [.int r]) :=
  vx_ret (W.widen hcs.1 hcs.2 (eI S hr hlocks hP hS hdg hp))
theorem eZx {post : Int32 → Mem → Prop} {PX : String → Mem → Prop} {r : Int32} {k : Nat} {ty : FieldType} (S : CallFix p m c cc nL s args BW own) (hr : meth.sig.returnType = some ty) (hlocks : meth.locks = false) (hP : wP D ct ek ad X σ H) (hS : va_S (fr N0) s.heap H locs) (hcs : cells ≤ k ∧ slots ≤ 6 * k) (hn : narrow ty (.int r) = .int r) (hdg : decode cc pc = .ok (.ireturn, 1)) (hp : post r σ) :
    W p l e R s m args below meth c H locs cells slots (vx_MQ below (wQi D ct ek ad N0 X post) (XCm D ct ek ad N0 X PX) args s k (6 * k) (fr N0)) (F0 m pc ls [.int r]) :=
  vx_ret (W.widen hcs.1 hcs.2 (eZ S hr hlocks hP hS hn hdg hp))
theorem eVx {post : Mem → Prop} {PX : String → Mem → Prop} {k : Nat} (S : CallFix p m c cc nL s args BW own) (hr : meth.sig.returnType = none) (hlocks : meth.locks = false) (hP : wP D ct ek ad X σ H) (hS : va_S (fr N0) s.heap H locs) (hcs : cells ≤ k ∧ slots ≤ 6 * k) (hdg : decode cc pc = .ok (.return_, 1)) (hp : post σ) :
    W p l e R s m args below meth c H locs cells slots (vx_MQ below (wQv D ct ek ad N0 X post) (XCm D ct ek ad N0 X PX) args s k (6 * k) (fr N0)) (F0 m pc ls []) :=
  vx_ret (W.widen hcs.1 hcs.2 (eV S hr hlocks hP hS hdg hp))
/-- the words of a throw -/
def thOK (ik ic : Nat) (E : String) (names : List String) : Bool :=
  (Cond.classLink RX10 ik E :: Cond.initialized E :: vx_atS RX10 ic E names).all (fun w => decide (w ∈ lw_tbl) && (goodWord w || xtB w)) && Bundle.fit E && names.all Bundle.fit
theorem th_w {ik ic : Nat} {E : String} {names : List String} (h : thOK ik ic E names = true) (S : CallFix p m c cc nL s args BW own) (FZ : FY s) : (∀ w ∈ Cond.classLink RX10 ik E :: Cond.initialized E :: vx_atS RX10 ic E names, w.before args s = true) ∧ (∀ w ∈ Cond.classLink RX10 ik E :: Cond.initialized E :: vx_atS RX10 ic E names, vx_ot w = true) ∧ Bundle.fit E = true ∧ ∀ n ∈ names, Bundle.fit n = true := by
  unfold thOK at h
  simp only [Bool.and_eq_true] at h
  obtain ⟨⟨h1, h2⟩, h3⟩ := h
  have key : ∀ w ∈ Cond.classLink RX10 ik E :: Cond.initialized E :: vx_atS RX10 ic E names, w ∈ lw_tbl ∧ (goodWord w = true ∨ xtB w = true) := fun w hw => by
    have := List.all_eq_true.mp h1 w hw
    simp only [Bool.and_eq_true, decide_eq_true_eq, Bool.or_eq_true] at this
    exact this
  refine ⟨fun w hw => ?_, fun w hw => ?_, h2, fun n hn => List.all_eq_true.mp h3 n hn⟩
  · obtain ⟨k1, k2⟩ := key w hw
    rcases k2 with k2 | k2
    · exact S.2.2.2.2 w (List.mem_filter.mpr ⟨k1, k2⟩)
    · exact va_Nw.use (xt_tab k2) (FZ.1 w k1 k2)
  · obtain ⟨k1, k2⟩ := key w hw
    unfold vx_ot
    rcases k2 with k2 | k2
    · rw [k2, Bool.or_true]
    · rw [xt_tab k2, Bool.true_or]
theorem wP_grow {H1 : Heap} (G : GI D ct ek ad N0 X F s) (h : wP D ct ek ad X σ H) (hq : ∀ q : Nat, q < H.size → H1[q]? = H[q]?) : wP D ct ek ad X σ H1 :=
  va_P.kept h (fun _ _ hk => hq _ (vx_lt h hk))
theorem thS {ik is ic d0 k : Nat} {E text : String} {names : List String} {Qc : Array Value → State → Outcome → State → Prop} {PX : String → Mem → Prop} (S : CallFix p m c cc nL s args BW RX10) (G : GI D ct ek ad N0 X F s) (FC : FX ek cs N0 s) (FZ : FY s) (hlt : l.stackTraces = false) (ht : (is, text) ∈ exTx) (ok : thOK ik ic E names = true) (hP : wP D ct ek ad X σ H) (hS : va_S (fr N0) s.heap H locs) (hls : ls.size = nL)
    (hout : ∀ x ∈ c.exceptionTable.toList, False) (hlocks : meth.locks = false) (hR : R = rmd d0 k (6 * k)) (hd : names.length = 2 ∧ 6 ≤ d0) (hrest : (rest.map fun v => v.category).sum ≤ 8) (hcs : cells + 1 ≤ k ∧ slots + 6 ≤ 6 * k) (hpx : PX E σ)
    (e0 : decode cc pc = .ok (.new ik, 3)) (d3 : decode cc (pc + 3) = .ok (.dup, 1)) (d4 : decode cc (pc + 4) = .ok (.ldc is, 2)) (d6 : decode cc (pc + 6) = .ok (.invokespecial ic, 3)) (d9 : decode cc (pc + 9) = .ok (.athrow, 1)) :
    W p l e R s m args below meth c H locs cells slots (vx_MQ below Qc (XCm D ct ek ad N0 X PX) args s k (6 * k) (fr N0)) (F0 m pc ls rest) := by
  subst hR
  obtain ⟨w1, w2, w3, w4⟩ := th_w ok S FZ
  refine vx_throwS (A := fr N0) (text := text) S.1 S.2.1 hlt S.2.2.2.1 w3 w4 (w1 _ List.mem_cons_self) (w1 _ (List.mem_cons_of_mem _ List.mem_cons_self)) (FC.tx ht) (fun w hw => w1 w (List.mem_cons_of_mem _ (List.mem_cons_of_mem _ hw))) w2 FC.un FC.su hS (hls.trans S.2.2.1.symm) e0 d3 d4 d6 d9 (fun x hx => (hout x hx).elim) (by rw [hd.1]; show 2 + 3 < d0; omega) (by rw [hd.1]; show _ + (13 * (2 + 1) + 43) ≤ 32 * d0; omega) hcs.1 hcs.2 hlocks (fun t ha hz hq => ⟨σ, trivial, ⟨hpx, wP_grow G hP hq⟩, ?_⟩) hS.2.2 hcs.1 hcs.2
  exact ⟨Nat.le_trans hS.1 hz, fun q h1 h2 => by rw [hq q (Nat.lt_of_lt_of_le h1 hS.1)]; exact hS.2.1 q h1 h2⟩
theorem thSW {ik is ic d0 k : Nat} {E text : String} {names : List String} {Qc : Array Value → State → Outcome → State → Prop} {PX : String → Mem → Prop} (S : CallFix p m c cc nL s args BW RX10) (G : GI D ct ek ad N0 X F s) (FC : FX ek cs N0 s) (FZ : FY s) (hlt : l.stackTraces = false) (ht : (is, text) ∈ exTx) (ok : thOK ik ic E names = true) (hP : wP D ct ek ad X σ H) (hS : va_S (fr N0) s.heap H locs) (hls : ls.size = nL)
    (hout : ∀ x ∈ c.exceptionTable.toList, False) (hlocks : meth.locks = false) (hR : R = rmd d0 k (6 * k)) (hd : names.length = 2 ∧ 6 ≤ d0) (hrest : (rest.map fun v => v.category).sum ≤ 8) (hcs : cells + 1 ≤ k ∧ slots + 6 ≤ 6 * k) (hpx : PX E σ)
    (e0 : decode cc pc = .ok (.new ik, 3)) (d3 : decode cc (pc + 3) = .ok (.dup, 1)) (d4 : decode cc (pc + 4) = .ok (.ldc_w is, 3)) (d7 : decode cc (pc + 7) = .ok (.invokespecial ic, 3)) (d10 : decode cc (pc + 10) = .ok (.athrow, 1)) :
    W p l e R s m args below meth c H locs cells slots (vx_MQ below Qc (XCm D ct ek ad N0 X PX) args s k (6 * k) (fr N0)) (F0 m pc ls rest) := by
  subst hR
  obtain ⟨w1, w2, w3, w4⟩ := th_w ok S FZ
  refine vx_throwSW (A := fr N0) (text := text) S.1 S.2.1 hlt S.2.2.2.1 w3 w4 (w1 _ List.mem_cons_self) (w1 _ (List.mem_cons_of_mem _ List.mem_cons_self)) (FC.tx ht) (fun w hw => w1 w (List.mem_cons_of_mem _ (List.mem_cons_of_mem _ hw))) w2 FC.un FC.su hS (hls.trans S.2.2.1.symm) e0 d3 d4 d7 d10 (fun x hx => (hout x hx).elim) (by rw [hd.1]; show 2 + 3 < d0; omega) (by rw [hd.1]; show _ + (13 * (2 + 1) + 43) ≤ 32 * d0; omega) hcs.1 hcs.2 hlocks (fun t ha hz hq => ⟨σ, trivial, ⟨hpx, wP_grow G hP hq⟩, ?_⟩) hS.2.2 hcs.1 hcs.2
  exact ⟨Nat.le_trans hS.1 hz, fun q h1 h2 => by rw [hq q (Nat.lt_of_lt_of_le h1 hS.1)]; exact hS.2.1 q h1 h2⟩
/-- a call of a method that may throw; what it throws goes on -/
theorem cXv {C : String} {idx kp ci N n d d0 k k0 : Nat} {y : MethodName} {bs : ByteArray} {T : u_T} {fs As st : List Value} {post : Mem → Prop} {PX PX0 : String → Mem → Prop} {Qc : Array Value → State → Outcome → State → Prop} (S : CallFix p m c cc nL s args BW own) (G : GI D ct ek ad N0 X F s) (b : Nat) (hM : MXv l y bs n d k D ct ek ad N0 X F (.ref (ad b) :: As) σ post PX) (ok : COK C y bs n none kp) (hl : Cond.methodLink own idx y ∈ BW)
    (hb : b < 276) (he : cellF ct ek ad b (σ b) = .inr (ci, fs)) (hc : vcl[ci]? = some (C, T, N)) (hP : wP D ct ek ad X σ H) (hS : va_S (fr N0) s.heap H locs) (hls : ls.size = nL) (hR : R = rmd d0 k0 (6 * k0)) (hd : d + 1 ≤ d0) (hk : As.length = kp) (hst : st = As.reverse ++ .ref (ad b) :: rest) (hrest : (rest.map fun v => v.category).sum ≤ 8) (hcs : cells + k ≤ k0 ∧ slots + 6 * k ≤ 6 * k0) (hout : ∀ x ∈ c.exceptionTable.toList, False) (hlocks : meth.locks = false) (hdg : decode cc pc = .ok (.invokevirtual idx, 3)) (hpx : ∀ E τ, PX E τ → PX0 E τ)
    (kk : ∀ (τ : Mem) (H : Heap) (locs : List Loc), post τ → wP D ct ek ad X τ H → va_S (fr N0) s.heap H locs → W p l e R s m args below meth c H locs (cells + k) (slots + 6 * k) (vx_MQ below Qc (XCm D ct ek ad N0 X PX0) args s k0 (6 * k0) (fr N0)) (F0 m (pc + 3) ls rest)) : W p l e R s m args below meth c H locs cells slots (vx_MQ below Qc (XCm D ct ek ad N0 X PX0) args s k0 (6 * k0) (fr N0)) (F0 m pc ls st) := by
  subst hR
  subst hst
  refine vx_callv (vx_runV (As := As) (rest := rest) S hM (cwV kp S.2.2.2.2 (gBV ok hl) rfl rfl rfl ok.2.2.2.2.1 ⟨hd, ?_⟩) ⟨GI.blind, va_recv G.1 hP hc ((wl_at hb).trans (congrArg (fun z => some (ad b, z)) he)), fun U hU hW => ⟨rfl, G.at hS hU hW, by rw [hU]; exact hP⟩⟩ rfl hk hls rfl (lv_room hrest) hdg ⟨hcs.1, hcs.2⟩) hS (fun q _ h => h) (fun q h => h) (fun q _ h => h) (fun E ce q9 u t H1 locs1 ht _ _ hB hz hq hS1 hce hcv hcl => ?_) (fun u t H1 locs1 ht _ hp hB _ _ hS1 => ?_)
  · have := ok.2.2.2.2.2
    show 8 + (n + 11) + 32 * d ≤ 32 * d0
    omega
  · exact vx_out (fun x hx => (hout x hx).elim) hlocks hce hcv hcl (fun t2 h2 _ => ⟨u, trivial, ⟨hpx E u hB.1, by rw [h2, ← ht]; exact hB.2⟩, hS1.F h2⟩) hS1.2.2 hcs.1 hcs.2
  · exact kk u H1 locs1 hp (by rw [← ht]; exact hB) hS1
theorem cXi {C : String} {idx kp ci N n d d0 k k0 : Nat} {y : MethodName} {bs : ByteArray} {ret : Option FieldType} {T : u_T} {fs As st : List Value} {post : Int32 → Mem → Prop} {PX PX0 : String → Mem → Prop} {Qc : Array Value → State → Outcome → State → Prop} (S : CallFix p m c cc nL s args BW own) (G : GI D ct ek ad N0 X F s) (b : Nat) (hM : MXi l y bs n ret d k D ct ek ad N0 X F (.ref (ad b) :: As) σ post PX) (ok : COK C y bs n ret kp) (hl : Cond.methodLink own idx y ∈ BW)
    (hb : b < 276) (he : cellF ct ek ad b (σ b) = .inr (ci, fs)) (hc : vcl[ci]? = some (C, T, N)) (hP : wP D ct ek ad X σ H) (hS : va_S (fr N0) s.heap H locs) (hls : ls.size = nL) (hR : R = rmd d0 k0 (6 * k0)) (hd : d + 1 ≤ d0) (hk : As.length = kp) (hst : st = As.reverse ++ .ref (ad b) :: rest) (hrest : (rest.map fun v => v.category).sum ≤ 8) (hcs : cells + k ≤ k0 ∧ slots + 6 * k ≤ 6 * k0) (hout : ∀ x ∈ c.exceptionTable.toList, False) (hlocks : meth.locks = false) (hdg : decode cc pc = .ok (.invokevirtual idx, 3)) (hpx : ∀ E τ, PX E τ → PX0 E τ)
    (kk : ∀ (r : Int32) (τ : Mem) (H : Heap) (locs : List Loc), post r τ → wP D ct ek ad X τ H → va_S (fr N0) s.heap H locs → W p l e R s m args below meth c H locs (cells + k) (slots + 6 * k) (vx_MQ below Qc (XCm D ct ek ad N0 X PX0) args s k0 (6 * k0) (fr N0)) (F0 m (pc + 3) ls (.int r :: rest))) : W p l e R s m args below meth c H locs cells slots (vx_MQ below Qc (XCm D ct ek ad N0 X PX0) args s k0 (6 * k0) (fr N0)) (F0 m pc ls st) := by
  subst hR
  subst hst
  refine vx_calli (vx_runV (As := As) (rest := rest) S hM (cwV kp S.2.2.2.2 (gBV ok hl) rfl rfl rfl ok.2.2.2.2.1 ⟨hd, ?_⟩) ⟨GI.blind, va_recv G.1 hP hc ((wl_at hb).trans (congrArg (fun z => some (ad b, z)) he)), fun U hU hW => ⟨rfl, G.at hS hU hW, by rw [hU]; exact hP⟩⟩ rfl hk hls rfl (lv_room hrest) hdg ⟨hcs.1, hcs.2⟩) hS (fun q _ h => h) (fun q h => h) (fun q _ h => h) (fun E ce q9 u t H1 locs1 ht _ _ hB hz hq hS1 hce hcv hcl => ?_) (fun r u t H1 locs1 ht _ hp hB _ _ hS1 => ?_)
  · have := ok.2.2.2.2.2
    show 8 + (n + 11) + 32 * d ≤ 32 * d0
    omega
  · exact vx_out (fun x hx => (hout x hx).elim) hlocks hce hcv hcl (fun t2 h2 _ => ⟨u, trivial, ⟨hpx E u hB.1, by rw [h2, ← ht]; exact hB.2⟩, hS1.F h2⟩) hS1.2.2 hcs.1 hcs.2
  · exact kk r u H1 locs1 hp (by rw [← ht]; exact hB) hS1
end XR

